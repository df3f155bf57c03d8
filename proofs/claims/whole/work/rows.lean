section
-- ===== PART A: goes FIRST, ahead of the names: the tables' words, and 'selects' of the private methods out of them =====
/-- a private method of a class that the tables say can be made, by its rows of tables_1 -/
def lw_okq (q : MethodName × Nat) : Prop := (q.1.cls ≠ "java/lang/invoke/MethodHandle" ∧ q.1.cls ≠ "java/lang/invoke/VarHandle") ∧ Cond.instantiable q.1.cls q.2 ∈ tables_1 ∧ Cond.privateMethod q.1 ∈ tables_1 ∧ Cond.instanceMethod q.1 ∈ tables_1
theorem lw_p0 : lw_okq (⟨"UnitVoices$Tree", "addNode", "(III)I"⟩, 9) := ⟨⟨by decide +kernel, by decide +kernel⟩, List.mem_of_getElem? (i := 118) (by decide +kernel), List.mem_of_getElem? (i := 128) (by decide +kernel), List.mem_of_getElem? (i := 129) (by decide +kernel)⟩
theorem lw_p1 : lw_okq (⟨"UnitVoices", "bad", "()I"⟩, 12) := ⟨⟨by decide +kernel, by decide +kernel⟩, List.mem_of_getElem? (i := 19) (by decide +kernel), List.mem_of_getElem? (i := 385) (by decide +kernel), List.mem_of_getElem? (i := 386) (by decide +kernel)⟩
theorem lw_p2 : lw_okq (⟨"UnitVoices", "full", "()I"⟩, 12) := ⟨⟨by decide +kernel, by decide +kernel⟩, List.mem_of_getElem? (i := 19) (by decide +kernel), List.mem_of_getElem? (i := 389) (by decide +kernel), List.mem_of_getElem? (i := 390) (by decide +kernel)⟩
theorem lw_p3 : lw_okq (⟨"UnitVoices", "isUnit", "(I)Z"⟩, 12) := ⟨⟨by decide +kernel, by decide +kernel⟩, List.mem_of_getElem? (i := 19) (by decide +kernel), List.mem_of_getElem? (i := 420) (by decide +kernel), List.mem_of_getElem? (i := 421) (by decide +kernel)⟩
theorem lw_p4 : lw_okq (⟨"UnitVoices$Text", "look", "()I"⟩, 7) := ⟨⟨by decide +kernel, by decide +kernel⟩, List.mem_of_getElem? (i := 162) (by decide +kernel), List.mem_of_getElem? (i := 461) (by decide +kernel), List.mem_of_getElem? (i := 462) (by decide +kernel)⟩
theorem lw_p5 : lw_okq (⟨"UnitVoices$Text", "readRow", "()V"⟩, 7) := ⟨⟨by decide +kernel, by decide +kernel⟩, List.mem_of_getElem? (i := 162) (by decide +kernel), List.mem_of_getElem? (i := 465) (by decide +kernel), List.mem_of_getElem? (i := 466) (by decide +kernel)⟩
theorem lw_p6 : lw_okq (⟨"UnitVoices$Text", "readWord", "(Ljava/lang/String;)Z"⟩, 7) := ⟨⟨by decide +kernel, by decide +kernel⟩, List.mem_of_getElem? (i := 162) (by decide +kernel), List.mem_of_getElem? (i := 470) (by decide +kernel), List.mem_of_getElem? (i := 471) (by decide +kernel)⟩
theorem lw_p7 : lw_okq (⟨"UnitVoices$Text", "fail", "()I"⟩, 7) := ⟨⟨by decide +kernel, by decide +kernel⟩, List.mem_of_getElem? (i := 162) (by decide +kernel), List.mem_of_getElem? (i := 484) (by decide +kernel), List.mem_of_getElem? (i := 485) (by decide +kernel)⟩
theorem lw_p8 : lw_okq (⟨"UnitVoices$Text", "readTarget", "(I)V"⟩, 7) := ⟨⟨by decide +kernel, by decide +kernel⟩, List.mem_of_getElem? (i := 162) (by decide +kernel), List.mem_of_getElem? (i := 527) (by decide +kernel), List.mem_of_getElem? (i := 528) (by decide +kernel)⟩
theorem lw_p9 : lw_okq (⟨"UnitVoices$Text", "readFigure", "(II)I"⟩, 7) := ⟨⟨by decide +kernel, by decide +kernel⟩, List.mem_of_getElem? (i := 162) (by decide +kernel), List.mem_of_getElem? (i := 531) (by decide +kernel), List.mem_of_getElem? (i := 532) (by decide +kernel)⟩
theorem lw_p10 : lw_okq (⟨"UnitVoices$Text", "readTree", "()V"⟩, 7) := ⟨⟨by decide +kernel, by decide +kernel⟩, List.mem_of_getElem? (i := 162) (by decide +kernel), List.mem_of_getElem? (i := 539) (by decide +kernel), List.mem_of_getElem? (i := 540) (by decide +kernel)⟩
theorem lw_p11 : lw_okq (⟨"UnitVoices$Text", "readNode", "(II)I"⟩, 7) := ⟨⟨by decide +kernel, by decide +kernel⟩, List.mem_of_getElem? (i := 162) (by decide +kernel), List.mem_of_getElem? (i := 544) (by decide +kernel), List.mem_of_getElem? (i := 545) (by decide +kernel)⟩
theorem lw_p12 : lw_okq (⟨"UnitVoices$Text", "readBranches", "(II)I"⟩, 7) := ⟨⟨by decide +kernel, by decide +kernel⟩, List.mem_of_getElem? (i := 162) (by decide +kernel), List.mem_of_getElem? (i := 557) (by decide +kernel), List.mem_of_getElem? (i := 558) (by decide +kernel)⟩
theorem lw_p13 : lw_okq (⟨"UnitVoices$Text", "readSign", "(I)Z"⟩, 7) := ⟨⟨by decide +kernel, by decide +kernel⟩, List.mem_of_getElem? (i := 162) (by decide +kernel), List.mem_of_getElem? (i := 561) (by decide +kernel), List.mem_of_getElem? (i := 562) (by decide +kernel)⟩
theorem lw_p14 : lw_okq (⟨"UnitVoices$Tree", "isNode", "(I)Z"⟩, 9) := ⟨⟨by decide +kernel, by decide +kernel⟩, List.mem_of_getElem? (i := 118) (by decide +kernel), List.mem_of_getElem? (i := 569) (by decide +kernel), List.mem_of_getElem? (i := 570) (by decide +kernel)⟩
theorem lw_p15 : lw_okq (⟨"UnitVoices$Text", "readEnd", "()V"⟩, 7) := ⟨⟨by decide +kernel, by decide +kernel⟩, List.mem_of_getElem? (i := 162) (by decide +kernel), List.mem_of_getElem? (i := 573) (by decide +kernel), List.mem_of_getElem? (i := 574) (by decide +kernel)⟩
def lw_privs_1 : List (MethodName × Nat) := [(⟨"UnitVoices$Tree", "addNode", "(III)I"⟩, 9), (⟨"UnitVoices", "bad", "()I"⟩, 12), (⟨"UnitVoices", "full", "()I"⟩, 12), (⟨"UnitVoices", "isUnit", "(I)Z"⟩, 12), (⟨"UnitVoices$Text", "look", "()I"⟩, 7), (⟨"UnitVoices$Text", "readRow", "()V"⟩, 7), (⟨"UnitVoices$Text", "readWord", "(Ljava/lang/String;)Z"⟩, 7), (⟨"UnitVoices$Text", "fail", "()I"⟩, 7), (⟨"UnitVoices$Text", "readTarget", "(I)V"⟩, 7), (⟨"UnitVoices$Text", "readFigure", "(II)I"⟩, 7), (⟨"UnitVoices$Text", "readTree", "()V"⟩, 7), (⟨"UnitVoices$Text", "readNode", "(II)I"⟩, 7), (⟨"UnitVoices$Text", "readBranches", "(II)I"⟩, 7), (⟨"UnitVoices$Text", "readSign", "(I)Z"⟩, 7), (⟨"UnitVoices$Tree", "isNode", "(I)Z"⟩, 9), (⟨"UnitVoices$Text", "readEnd", "()V"⟩, 7)]
theorem lw_r1 : ∀ q ∈ lw_privs_1, lw_okq q := List.forall_mem_cons.mpr ⟨lw_p0, List.forall_mem_cons.mpr ⟨lw_p1, List.forall_mem_cons.mpr ⟨lw_p2, List.forall_mem_cons.mpr ⟨lw_p3, List.forall_mem_cons.mpr ⟨lw_p4, List.forall_mem_cons.mpr ⟨lw_p5, List.forall_mem_cons.mpr ⟨lw_p6, List.forall_mem_cons.mpr ⟨lw_p7, List.forall_mem_cons.mpr ⟨lw_p8, List.forall_mem_cons.mpr ⟨lw_p9, List.forall_mem_cons.mpr ⟨lw_p10, List.forall_mem_cons.mpr ⟨lw_p11, List.forall_mem_cons.mpr ⟨lw_p12, List.forall_mem_cons.mpr ⟨lw_p13, List.forall_mem_cons.mpr ⟨lw_p14, List.forall_mem_cons.mpr ⟨lw_p15, fun _ h => absurd h List.not_mem_nil⟩⟩⟩⟩⟩⟩⟩⟩⟩⟩⟩⟩⟩⟩⟩⟩
theorem lw_p16 : lw_okq (⟨"UnitVoices", "isTarget", "(I)Z"⟩, 12) := ⟨⟨by decide +kernel, by decide +kernel⟩, List.mem_of_getElem? (i := 19) (by decide +kernel), List.mem_of_getElem? (i := 591) (by decide +kernel), List.mem_of_getElem? (i := 592) (by decide +kernel)⟩
theorem lw_p17 : lw_okq (⟨"UnitVoices", "emptyLeaves", "()I"⟩, 12) := ⟨⟨by decide +kernel, by decide +kernel⟩, List.mem_of_getElem? (i := 19) (by decide +kernel), List.mem_of_getElem? (i := 607) (by decide +kernel), List.mem_of_getElem? (i := 608) (by decide +kernel)⟩
theorem lw_p18 : lw_okq (⟨"UnitVoices$Tree", "saysYes", "(IIIII)Z"⟩, 9) := ⟨⟨by decide +kernel, by decide +kernel⟩, List.mem_of_getElem? (i := 118) (by decide +kernel), List.mem_of_getElem? (i := 619) (by decide +kernel), List.mem_of_getElem? (i := 620) (by decide +kernel)⟩
theorem lw_p19 : lw_okq (⟨"UnitVoices", "isPlace", "(I)Z"⟩, 12) := ⟨⟨by decide +kernel, by decide +kernel⟩, List.mem_of_getElem? (i := 19) (by decide +kernel), List.mem_of_getElem? (i := 647) (by decide +kernel), List.mem_of_getElem? (i := 648) (by decide +kernel)⟩
theorem lw_p20 : lw_okq (⟨"UnitVoices", "no", "()I"⟩, 12) := ⟨⟨by decide +kernel, by decide +kernel⟩, List.mem_of_getElem? (i := 19) (by decide +kernel), List.mem_of_getElem? (i := 651) (by decide +kernel), List.mem_of_getElem? (i := 652) (by decide +kernel)⟩
theorem lw_p21 : lw_okq (⟨"UnitVoices$Chooser", "findLeaves", "()V"⟩, 6) := ⟨⟨by decide +kernel, by decide +kernel⟩, List.mem_of_getElem? (i := 198) (by decide +kernel), List.mem_of_getElem? (i := 659) (by decide +kernel), List.mem_of_getElem? (i := 660) (by decide +kernel)⟩
theorem lw_p22 : lw_okq (⟨"UnitVoices$Chooser", "chooseFor", "(II)V"⟩, 6) := ⟨⟨by decide +kernel, by decide +kernel⟩, List.mem_of_getElem? (i := 198) (by decide +kernel), List.mem_of_getElem? (i := 664) (by decide +kernel), List.mem_of_getElem? (i := 665) (by decide +kernel)⟩
theorem lw_p23 : lw_okq (⟨"UnitVoices$Chooser", "climb", "(LUnitVoices$Choice;III)V"⟩, 6) := ⟨⟨by decide +kernel, by decide +kernel⟩, List.mem_of_getElem? (i := 198) (by decide +kernel), List.mem_of_getElem? (i := 673) (by decide +kernel), List.mem_of_getElem? (i := 674) (by decide +kernel)⟩
theorem lw_p24 : lw_okq (⟨"UnitVoices$Chooser", "gather", "(LUnitVoices$Choice;III)V"⟩, 6) := ⟨⟨by decide +kernel, by decide +kernel⟩, List.mem_of_getElem? (i := 198) (by decide +kernel), List.mem_of_getElem? (i := 677) (by decide +kernel), List.mem_of_getElem? (i := 678) (by decide +kernel)⟩
theorem lw_p25 : lw_okq (⟨"UnitVoices$Prices", "besidePart", "(II)I"⟩, 2) := ⟨⟨by decide +kernel, by decide +kernel⟩, List.mem_of_getElem? (i := 253) (by decide +kernel), List.mem_of_getElem? (i := 721) (by decide +kernel), List.mem_of_getElem? (i := 722) (by decide +kernel)⟩
theorem lw_p26 : lw_okq (⟨"UnitVoices", "findChain", "(I)Z"⟩, 12) := ⟨⟨by decide +kernel, by decide +kernel⟩, List.mem_of_getElem? (i := 19) (by decide +kernel), List.mem_of_getElem? (i := 739) (by decide +kernel), List.mem_of_getElem? (i := 740) (by decide +kernel)⟩
theorem lw_p27 : lw_okq (⟨"UnitVoices$Chains", "weighEntry", "(III)V"⟩, 7) := ⟨⟨by decide +kernel, by decide +kernel⟩, List.mem_of_getElem? (i := 266) (by decide +kernel), List.mem_of_getElem? (i := 752) (by decide +kernel), List.mem_of_getElem? (i := 753) (by decide +kernel)⟩
theorem lw_p28 : lw_okq (⟨"UnitVoicesModel", "bad", "(I)I"⟩, 40) := ⟨⟨by decide +kernel, by decide +kernel⟩, List.mem_of_getElem? (i := 848) (by decide +kernel), List.mem_of_getElem? (i := 989) (by decide +kernel), List.mem_of_getElem? (i := 990) (by decide +kernel)⟩
theorem lw_p29 : lw_okq (⟨"UnitVoicesModel", "full", "()I"⟩, 40) := ⟨⟨by decide +kernel, by decide +kernel⟩, List.mem_of_getElem? (i := 848) (by decide +kernel), List.mem_of_getElem? (i := 993) (by decide +kernel), List.mem_of_getElem? (i := 994) (by decide +kernel)⟩
theorem lw_p30 : lw_okq (⟨"UnitVoicesModel", "lays", "(IIIIII)V"⟩, 40) := ⟨⟨by decide +kernel, by decide +kernel⟩, List.mem_of_getElem? (i := 848) (by decide +kernel), List.mem_of_getElem? (i := 997) (by decide +kernel), List.mem_of_getElem? (i := 998) (by decide +kernel)⟩
theorem lw_p31 : lw_okq (⟨"UnitVoicesModel", "at", "(II)I"⟩, 40) := ⟨⟨by decide +kernel, by decide +kernel⟩, List.mem_of_getElem? (i := 848) (by decide +kernel), List.mem_of_getElem? (i := 1009) (by decide +kernel), List.mem_of_getElem? (i := 1010) (by decide +kernel)⟩
def lw_privs_2 : List (MethodName × Nat) := [(⟨"UnitVoices", "isTarget", "(I)Z"⟩, 12), (⟨"UnitVoices", "emptyLeaves", "()I"⟩, 12), (⟨"UnitVoices$Tree", "saysYes", "(IIIII)Z"⟩, 9), (⟨"UnitVoices", "isPlace", "(I)Z"⟩, 12), (⟨"UnitVoices", "no", "()I"⟩, 12), (⟨"UnitVoices$Chooser", "findLeaves", "()V"⟩, 6), (⟨"UnitVoices$Chooser", "chooseFor", "(II)V"⟩, 6), (⟨"UnitVoices$Chooser", "climb", "(LUnitVoices$Choice;III)V"⟩, 6), (⟨"UnitVoices$Chooser", "gather", "(LUnitVoices$Choice;III)V"⟩, 6), (⟨"UnitVoices$Prices", "besidePart", "(II)I"⟩, 2), (⟨"UnitVoices", "findChain", "(I)Z"⟩, 12), (⟨"UnitVoices$Chains", "weighEntry", "(III)V"⟩, 7), (⟨"UnitVoicesModel", "bad", "(I)I"⟩, 40), (⟨"UnitVoicesModel", "full", "()I"⟩, 40), (⟨"UnitVoicesModel", "lays", "(IIIIII)V"⟩, 40), (⟨"UnitVoicesModel", "at", "(II)I"⟩, 40)]
theorem lw_r2 : ∀ q ∈ lw_privs_2, lw_okq q := List.forall_mem_cons.mpr ⟨lw_p16, List.forall_mem_cons.mpr ⟨lw_p17, List.forall_mem_cons.mpr ⟨lw_p18, List.forall_mem_cons.mpr ⟨lw_p19, List.forall_mem_cons.mpr ⟨lw_p20, List.forall_mem_cons.mpr ⟨lw_p21, List.forall_mem_cons.mpr ⟨lw_p22, List.forall_mem_cons.mpr ⟨lw_p23, List.forall_mem_cons.mpr ⟨lw_p24, List.forall_mem_cons.mpr ⟨lw_p25, List.forall_mem_cons.mpr ⟨lw_p26, List.forall_mem_cons.mpr ⟨lw_p27, List.forall_mem_cons.mpr ⟨lw_p28, List.forall_mem_cons.mpr ⟨lw_p29, List.forall_mem_cons.mpr ⟨lw_p30, List.forall_mem_cons.mpr ⟨lw_p31, fun _ h => absurd h List.not_mem_nil⟩⟩⟩⟩⟩⟩⟩⟩⟩⟩⟩⟩⟩⟩⟩⟩
theorem lw_p32 : lw_okq (⟨"UnitVoicesModel", "isUnit", "(I)Z"⟩, 40) := ⟨⟨by decide +kernel, by decide +kernel⟩, List.mem_of_getElem? (i := 848) (by decide +kernel), List.mem_of_getElem? (i := 1021) (by decide +kernel), List.mem_of_getElem? (i := 1022) (by decide +kernel)⟩
theorem lw_p33 : lw_okq (⟨"UnitVoicesModel", "nextOf", "(I)I"⟩, 40) := ⟨⟨by decide +kernel, by decide +kernel⟩, List.mem_of_getElem? (i := 848) (by decide +kernel), List.mem_of_getElem? (i := 1025) (by decide +kernel), List.mem_of_getElem? (i := 1026) (by decide +kernel)⟩
theorem lw_p34 : lw_okq (⟨"UnitVoicesModel", "takesWord", "()I"⟩, 40) := ⟨⟨by decide +kernel, by decide +kernel⟩, List.mem_of_getElem? (i := 848) (by decide +kernel), List.mem_of_getElem? (i := 1055) (by decide +kernel), List.mem_of_getElem? (i := 1056) (by decide +kernel)⟩
theorem lw_p35 : lw_okq (⟨"UnitVoicesModel", "here", "()I"⟩, 40) := ⟨⟨by decide +kernel, by decide +kernel⟩, List.mem_of_getElem? (i := 848) (by decide +kernel), List.mem_of_getElem? (i := 1059) (by decide +kernel), List.mem_of_getElem? (i := 1060) (by decide +kernel)⟩
theorem lw_p36 : lw_okq (⟨"UnitVoicesModel", "readsRow", "()I"⟩, 40) := ⟨⟨by decide +kernel, by decide +kernel⟩, List.mem_of_getElem? (i := 848) (by decide +kernel), List.mem_of_getElem? (i := 1066) (by decide +kernel), List.mem_of_getElem? (i := 1067) (by decide +kernel)⟩
theorem lw_p37 : lw_okq (⟨"UnitVoicesModel", "takes", "(II)I"⟩, 40) := ⟨⟨by decide +kernel, by decide +kernel⟩, List.mem_of_getElem? (i := 848) (by decide +kernel), List.mem_of_getElem? (i := 1070) (by decide +kernel), List.mem_of_getElem? (i := 1071) (by decide +kernel)⟩
theorem lw_p38 : lw_okq (⟨"UnitVoicesModel", "readsTree", "()I"⟩, 40) := ⟨⟨by decide +kernel, by decide +kernel⟩, List.mem_of_getElem? (i := 848) (by decide +kernel), List.mem_of_getElem? (i := 1074) (by decide +kernel), List.mem_of_getElem? (i := 1075) (by decide +kernel)⟩
theorem lw_p39 : lw_okq (⟨"UnitVoicesModel", "hangs", "(II)V"⟩, 40) := ⟨⟨by decide +kernel, by decide +kernel⟩, List.mem_of_getElem? (i := 848) (by decide +kernel), List.mem_of_getElem? (i := 1081) (by decide +kernel), List.mem_of_getElem? (i := 1082) (by decide +kernel)⟩
theorem lw_p40 : lw_okq (⟨"UnitVoicesModel", "isTarget", "(I)Z"⟩, 40) := ⟨⟨by decide +kernel, by decide +kernel⟩, List.mem_of_getElem? (i := 848) (by decide +kernel), List.mem_of_getElem? (i := 1089) (by decide +kernel), List.mem_of_getElem? (i := 1090) (by decide +kernel)⟩
theorem lw_p41 : lw_okq (⟨"UnitVoicesModel", "targetLeft", "(I)I"⟩, 40) := ⟨⟨by decide +kernel, by decide +kernel⟩, List.mem_of_getElem? (i := 848) (by decide +kernel), List.mem_of_getElem? (i := 1093) (by decide +kernel), List.mem_of_getElem? (i := 1094) (by decide +kernel)⟩
theorem lw_p42 : lw_okq (⟨"UnitVoicesModel", "targetRight", "(I)I"⟩, 40) := ⟨⟨by decide +kernel, by decide +kernel⟩, List.mem_of_getElem? (i := 848) (by decide +kernel), List.mem_of_getElem? (i := 1097) (by decide +kernel), List.mem_of_getElem? (i := 1098) (by decide +kernel)⟩
theorem lw_p43 : lw_okq (⟨"UnitVoicesModel", "emptyLeaves", "()I"⟩, 40) := ⟨⟨by decide +kernel, by decide +kernel⟩, List.mem_of_getElem? (i := 848) (by decide +kernel), List.mem_of_getElem? (i := 1106) (by decide +kernel), List.mem_of_getElem? (i := 1107) (by decide +kernel)⟩
theorem lw_p44 : lw_okq (⟨"UnitVoicesModel", "leafOf", "(ZI)I"⟩, 40) := ⟨⟨by decide +kernel, by decide +kernel⟩, List.mem_of_getElem? (i := 848) (by decide +kernel), List.mem_of_getElem? (i := 1110) (by decide +kernel), List.mem_of_getElem? (i := 1111) (by decide +kernel)⟩
theorem lw_p45 : lw_okq (⟨"UnitVoicesModel", "unitAnswers", "(II)Z"⟩, 40) := ⟨⟨by decide +kernel, by decide +kernel⟩, List.mem_of_getElem? (i := 848) (by decide +kernel), List.mem_of_getElem? (i := 1114) (by decide +kernel), List.mem_of_getElem? (i := 1115) (by decide +kernel)⟩
theorem lw_p46 : lw_okq (⟨"UnitVoicesModel", "answers", "(IIIII)Z"⟩, 40) := ⟨⟨by decide +kernel, by decide +kernel⟩, List.mem_of_getElem? (i := 848) (by decide +kernel), List.mem_of_getElem? (i := 1118) (by decide +kernel), List.mem_of_getElem? (i := 1119) (by decide +kernel)⟩
theorem lw_p47 : lw_okq (⟨"UnitVoicesModel", "targetAnswers", "(II)Z"⟩, 40) := ⟨⟨by decide +kernel, by decide +kernel⟩, List.mem_of_getElem? (i := 848) (by decide +kernel), List.mem_of_getElem? (i := 1122) (by decide +kernel), List.mem_of_getElem? (i := 1123) (by decide +kernel)⟩
def lw_privs_3 : List (MethodName × Nat) := [(⟨"UnitVoicesModel", "isUnit", "(I)Z"⟩, 40), (⟨"UnitVoicesModel", "nextOf", "(I)I"⟩, 40), (⟨"UnitVoicesModel", "takesWord", "()I"⟩, 40), (⟨"UnitVoicesModel", "here", "()I"⟩, 40), (⟨"UnitVoicesModel", "readsRow", "()I"⟩, 40), (⟨"UnitVoicesModel", "takes", "(II)I"⟩, 40), (⟨"UnitVoicesModel", "readsTree", "()I"⟩, 40), (⟨"UnitVoicesModel", "hangs", "(II)V"⟩, 40), (⟨"UnitVoicesModel", "isTarget", "(I)Z"⟩, 40), (⟨"UnitVoicesModel", "targetLeft", "(I)I"⟩, 40), (⟨"UnitVoicesModel", "targetRight", "(I)I"⟩, 40), (⟨"UnitVoicesModel", "emptyLeaves", "()I"⟩, 40), (⟨"UnitVoicesModel", "leafOf", "(ZI)I"⟩, 40), (⟨"UnitVoicesModel", "unitAnswers", "(II)Z"⟩, 40), (⟨"UnitVoicesModel", "answers", "(IIIII)Z"⟩, 40), (⟨"UnitVoicesModel", "targetAnswers", "(II)Z"⟩, 40)]
theorem lw_r3 : ∀ q ∈ lw_privs_3, lw_okq q := List.forall_mem_cons.mpr ⟨lw_p32, List.forall_mem_cons.mpr ⟨lw_p33, List.forall_mem_cons.mpr ⟨lw_p34, List.forall_mem_cons.mpr ⟨lw_p35, List.forall_mem_cons.mpr ⟨lw_p36, List.forall_mem_cons.mpr ⟨lw_p37, List.forall_mem_cons.mpr ⟨lw_p38, List.forall_mem_cons.mpr ⟨lw_p39, List.forall_mem_cons.mpr ⟨lw_p40, List.forall_mem_cons.mpr ⟨lw_p41, List.forall_mem_cons.mpr ⟨lw_p42, List.forall_mem_cons.mpr ⟨lw_p43, List.forall_mem_cons.mpr ⟨lw_p44, List.forall_mem_cons.mpr ⟨lw_p45, List.forall_mem_cons.mpr ⟨lw_p46, List.forall_mem_cons.mpr ⟨lw_p47, fun _ h => absurd h List.not_mem_nil⟩⟩⟩⟩⟩⟩⟩⟩⟩⟩⟩⟩⟩⟩⟩⟩
theorem lw_p48 : lw_okq (⟨"UnitVoicesModel", "chooses", "(I)Z"⟩, 40) := ⟨⟨by decide +kernel, by decide +kernel⟩, List.mem_of_getElem? (i := 848) (by decide +kernel), List.mem_of_getElem? (i := 1135) (by decide +kernel), List.mem_of_getElem? (i := 1136) (by decide +kernel)⟩
theorem lw_p49 : lw_okq (⟨"UnitVoicesModel", "wayLong", "(I)I"⟩, 40) := ⟨⟨by decide +kernel, by decide +kernel⟩, List.mem_of_getElem? (i := 848) (by decide +kernel), List.mem_of_getElem? (i := 1139) (by decide +kernel), List.mem_of_getElem? (i := 1140) (by decide +kernel)⟩
theorem lw_p50 : lw_okq (⟨"UnitVoicesModel", "goesAlong", "(II)I"⟩, 40) := ⟨⟨by decide +kernel, by decide +kernel⟩, List.mem_of_getElem? (i := 848) (by decide +kernel), List.mem_of_getElem? (i := 1143) (by decide +kernel), List.mem_of_getElem? (i := 1144) (by decide +kernel)⟩
theorem lw_p51 : lw_okq (⟨"UnitVoicesModel", "no", "()I"⟩, 40) := ⟨⟨by decide +kernel, by decide +kernel⟩, List.mem_of_getElem? (i := 848) (by decide +kernel), List.mem_of_getElem? (i := 1147) (by decide +kernel), List.mem_of_getElem? (i := 1148) (by decide +kernel)⟩
theorem lw_p52 : lw_okq (⟨"UnitVoicesModel", "fitAs", "(III)I"⟩, 40) := ⟨⟨by decide +kernel, by decide +kernel⟩, List.mem_of_getElem? (i := 848) (by decide +kernel), List.mem_of_getElem? (i := 1163) (by decide +kernel), List.mem_of_getElem? (i := 1164) (by decide +kernel)⟩
theorem lw_p53 : lw_okq (⟨"UnitVoicesModel", "jointOf", "(II)I"⟩, 40) := ⟨⟨by decide +kernel, by decide +kernel⟩, List.mem_of_getElem? (i := 848) (by decide +kernel), List.mem_of_getElem? (i := 1174) (by decide +kernel), List.mem_of_getElem? (i := 1175) (by decide +kernel)⟩
theorem lw_p54 : lw_okq (⟨"UnitVoicesModel", "chainsNow", "()Z"⟩, 40) := ⟨⟨by decide +kernel, by decide +kernel⟩, List.mem_of_getElem? (i := 848) (by decide +kernel), List.mem_of_getElem? (i := 1182) (by decide +kernel), List.mem_of_getElem? (i := 1183) (by decide +kernel)⟩
theorem lw_p55 : lw_okq (⟨"UnitVoicesModel", "chains", "(I)Z"⟩, 40) := ⟨⟨by decide +kernel, by decide +kernel⟩, List.mem_of_getElem? (i := 848) (by decide +kernel), List.mem_of_getElem? (i := 1186) (by decide +kernel), List.mem_of_getElem? (i := 1187) (by decide +kernel)⟩
theorem lw_p56 : lw_okq (⟨"UnitVoicesModel", "begins", "()V"⟩, 40) := ⟨⟨by decide +kernel, by decide +kernel⟩, List.mem_of_getElem? (i := 848) (by decide +kernel), List.mem_of_getElem? (i := 1190) (by decide +kernel), List.mem_of_getElem? (i := 1191) (by decide +kernel)⟩
theorem lw_p57 : lw_okq (⟨"UnitVoicesModel", "takesIn", "(II)V"⟩, 40) := ⟨⟨by decide +kernel, by decide +kernel⟩, List.mem_of_getElem? (i := 848) (by decide +kernel), List.mem_of_getElem? (i := 1194) (by decide +kernel), List.mem_of_getElem? (i := 1195) (by decide +kernel)⟩
theorem lw_p58 : lw_okq (⟨"UnitVoicesModel", "offers", "(I)V"⟩, 40) := ⟨⟨by decide +kernel, by decide +kernel⟩, List.mem_of_getElem? (i := 848) (by decide +kernel), List.mem_of_getElem? (i := 1198) (by decide +kernel), List.mem_of_getElem? (i := 1199) (by decide +kernel)⟩
theorem lw_p59 : lw_okq (⟨"UnitVoicesModel", "layChain", "()V"⟩, 40) := ⟨⟨by decide +kernel, by decide +kernel⟩, List.mem_of_getElem? (i := 848) (by decide +kernel), List.mem_of_getElem? (i := 1208) (by decide +kernel), List.mem_of_getElem? (i := 1209) (by decide +kernel)⟩
theorem lw_p60 : lw_okq (⟨"UnitVoicesModel", "fitNow", "(II)I"⟩, 40) := ⟨⟨by decide +kernel, by decide +kernel⟩, List.mem_of_getElem? (i := 848) (by decide +kernel), List.mem_of_getElem? (i := 1212) (by decide +kernel), List.mem_of_getElem? (i := 1213) (by decide +kernel)⟩
theorem lw_p61 : lw_okq (⟨"UnitVoicesModel", "toldOf", "(I)I"⟩, 40) := ⟨⟨by decide +kernel, by decide +kernel⟩, List.mem_of_getElem? (i := 848) (by decide +kernel), List.mem_of_getElem? (i := 1244) (by decide +kernel), List.mem_of_getElem? (i := 1245) (by decide +kernel)⟩
def lw_privs_4 : List (MethodName × Nat) := [(⟨"UnitVoicesModel", "chooses", "(I)Z"⟩, 40), (⟨"UnitVoicesModel", "wayLong", "(I)I"⟩, 40), (⟨"UnitVoicesModel", "goesAlong", "(II)I"⟩, 40), (⟨"UnitVoicesModel", "no", "()I"⟩, 40), (⟨"UnitVoicesModel", "fitAs", "(III)I"⟩, 40), (⟨"UnitVoicesModel", "jointOf", "(II)I"⟩, 40), (⟨"UnitVoicesModel", "chainsNow", "()Z"⟩, 40), (⟨"UnitVoicesModel", "chains", "(I)Z"⟩, 40), (⟨"UnitVoicesModel", "begins", "()V"⟩, 40), (⟨"UnitVoicesModel", "takesIn", "(II)V"⟩, 40), (⟨"UnitVoicesModel", "offers", "(I)V"⟩, 40), (⟨"UnitVoicesModel", "layChain", "()V"⟩, 40), (⟨"UnitVoicesModel", "fitNow", "(II)I"⟩, 40), (⟨"UnitVoicesModel", "toldOf", "(I)I"⟩, 40)]
theorem lw_r4 : ∀ q ∈ lw_privs_4, lw_okq q := List.forall_mem_cons.mpr ⟨lw_p48, List.forall_mem_cons.mpr ⟨lw_p49, List.forall_mem_cons.mpr ⟨lw_p50, List.forall_mem_cons.mpr ⟨lw_p51, List.forall_mem_cons.mpr ⟨lw_p52, List.forall_mem_cons.mpr ⟨lw_p53, List.forall_mem_cons.mpr ⟨lw_p54, List.forall_mem_cons.mpr ⟨lw_p55, List.forall_mem_cons.mpr ⟨lw_p56, List.forall_mem_cons.mpr ⟨lw_p57, List.forall_mem_cons.mpr ⟨lw_p58, List.forall_mem_cons.mpr ⟨lw_p59, List.forall_mem_cons.mpr ⟨lw_p60, List.forall_mem_cons.mpr ⟨lw_p61, fun _ h => absurd h List.not_mem_nil⟩⟩⟩⟩⟩⟩⟩⟩⟩⟩⟩⟩⟩⟩
def lw_privs : List (MethodName × Nat) := lw_privs_1 ++ (lw_privs_2 ++ (lw_privs_3 ++ (lw_privs_4)))
def lw_tbl : List Cond := k2_sels lw_privs ++ tables_1
theorem lw_privs_ok : ∀ q ∈ lw_privs, lw_okq q := by
  show ∀ q ∈ lw_privs_1 ++ (lw_privs_2 ++ (lw_privs_3 ++ (lw_privs_4))), lw_okq q
  exact List.forall_mem_append.mpr ⟨lw_r1, List.forall_mem_append.mpr ⟨lw_r2, List.forall_mem_append.mpr ⟨lw_r3, lw_r4⟩⟩⟩
end
section
def RX0 : String := "UnitVoices$Chains"
def TX0 : u_T := fun k => match k with
  | 0 => ("UnitVoices$Chains", "row", "LUnitVoices$Row;", true)
  | 1 => ("UnitVoices$Chains", "choices", "[LUnitVoices$Choice;", true)
  | 2 => ("UnitVoices$Chains", "prices", "LUnitVoices$Prices;", true)
  | 3 => ("UnitVoices$Chains", "tallies", "[LUnitVoices$Tally;", true)
  | 4 => ("UnitVoices$Chains", "whole", "LUnitVoices$Tally;", true)
  | 5 => ("UnitVoices$Chains", "ending", "LUnitVoices$Tally;", true)
  | _ => ("UnitVoices$Chains", "path", "[I", true)
def tyX0 : Nat → FieldType := fun k => match k with
  | 0 => .object "UnitVoices$Row"
  | 1 => .array (.object "UnitVoices$Choice")
  | 2 => .object "UnitVoices$Prices"
  | 3 => .array (.object "UnitVoices$Tally")
  | 4 => .object "UnitVoices$Tally"
  | 5 => .object "UnitVoices$Tally"
  | _ => .array .int
theorem nmX0 : ∀ a, a < 7 → ∀ b, b < 7 → a ≠ b → (TX0 a).2.1 ≠ (TX0 b).2.1 := by decide +kernel
theorem tyX0_ok : ∀ k, k < 7 → parseFieldDescriptor (TX0 k).2.2.1 = some (tyX0 k) := by decide +kernel
abbrev cX0_init : ByteArray := prog_2_method_1_code
def yX0_init : MethodName := ⟨RX0, "<init>", "(LUnitVoices$Row;LUnitVoices$Chooser;LUnitVoices$Prices;)V"⟩
abbrev cX0_weigh : ByteArray := prog_2_method_2_code
def yX0_weigh : MethodName := ⟨RX0, "weigh", "(I)V"⟩
abbrev cX0_weighEntry : ByteArray := prog_2_method_3_code
def yX0_weighEntry : MethodName := ⟨RX0, "weighEntry", "(III)V"⟩
abbrev cX0_trace : ByteArray := prog_2_method_4_code
def yX0_trace : MethodName := ⟨RX0, "trace", "()V"⟩
abbrev cX0_leastPrice : ByteArray := prog_2_method_5_code
def yX0_leastPrice : MethodName := ⟨RX0, "leastPrice", "()I"⟩
abbrev cX0_secondPrice : ByteArray := prog_2_method_6_code
def yX0_secondPrice : MethodName := ⟨RX0, "secondPrice", "()I"⟩
abbrev cX0_mostPrice : ByteArray := prog_2_method_7_code
def yX0_mostPrice : MethodName := ⟨RX0, "mostPrice", "()I"⟩
abbrev cX0_waysOfLeast : ByteArray := prog_2_method_8_code
def yX0_waysOfLeast : MethodName := ⟨RX0, "waysOfLeast", "()I"⟩
abbrev cX0_pathFollowers : ByteArray := prog_2_method_9_code
def yX0_pathFollowers : MethodName := ⟨RX0, "pathFollowers", "(LUnitVoices$Units;)I"⟩
abbrev cX0_pathFits : ByteArray := prog_2_method_10_code
def yX0_pathFits : MethodName := ⟨RX0, "pathFits", "(I)I"⟩
abbrev cX0_pathJoints : ByteArray := prog_2_method_11_code
def yX0_pathJoints : MethodName := ⟨RX0, "pathJoints", "()I"⟩
abbrev cX0_dearestPathJoint : ByteArray := prog_2_method_12_code
def yX0_dearestPathJoint : MethodName := ⟨RX0, "dearestPathJoint", "()I"⟩
def RX1 : String := "UnitVoices$Choice"
def TX1 : u_T := fun k => match k with
  | 0 => ("UnitVoices$Choice", "unit", "[I", true)
  | 1 => ("UnitVoices$Choice", "count", "I", false)
  | 2 => ("UnitVoices$Choice", "steps", "I", false)
  | _ => ("UnitVoices$Choice", "tried", "I", false)
def tyX1 : Nat → FieldType := fun k => match k with
  | 0 => .array .int
  | 1 => .int
  | 2 => .int
  | _ => .int
theorem nmX1 : ∀ a, a < 4 → ∀ b, b < 4 → a ≠ b → (TX1 a).2.1 ≠ (TX1 b).2.1 := by decide +kernel
theorem tyX1_ok : ∀ k, k < 4 → parseFieldDescriptor (TX1 k).2.2.1 = some (tyX1 k) := by decide +kernel
abbrev cX1_init : ByteArray := prog_3_method_1_code
def yX1_init : MethodName := ⟨RX1, "<init>", "()V"⟩
abbrev cX1_begin : ByteArray := prog_3_method_2_code
def yX1_begin : MethodName := ⟨RX1, "begin", "()V"⟩
abbrev cX1_add : ByteArray := prog_3_method_3_code
def yX1_add : MethodName := ⟨RX1, "add", "(I)V"⟩
abbrev cX1_miss : ByteArray := prog_3_method_4_code
def yX1_miss : MethodName := ⟨RX1, "miss", "()V"⟩
abbrev cX1_isMissing : ByteArray := prog_3_method_5_code
def yX1_isMissing : MethodName := ⟨RX1, "isMissing", "()Z"⟩
def RX2 : String := "UnitVoices$Chooser"
def TX2 : u_T := fun k => match k with
  | 0 => ("UnitVoices$Chooser", "units", "LUnitVoices$Units;", true)
  | 1 => ("UnitVoices$Chooser", "row", "LUnitVoices$Row;", true)
  | 2 => ("UnitVoices$Chooser", "tree", "LUnitVoices$Tree;", true)
  | 3 => ("UnitVoices$Chooser", "others", "[I", true)
  | 4 => ("UnitVoices$Chooser", "leafOf", "[I", true)
  | _ => ("UnitVoices$Chooser", "choices", "[LUnitVoices$Choice;", true)
def tyX2 : Nat → FieldType := fun k => match k with
  | 0 => .object "UnitVoices$Units"
  | 1 => .object "UnitVoices$Row"
  | 2 => .object "UnitVoices$Tree"
  | 3 => .array .int
  | 4 => .array .int
  | _ => .array (.object "UnitVoices$Choice")
theorem nmX2 : ∀ a, a < 6 → ∀ b, b < 6 → a ≠ b → (TX2 a).2.1 ≠ (TX2 b).2.1 := by decide +kernel
theorem tyX2_ok : ∀ k, k < 6 → parseFieldDescriptor (TX2 k).2.2.1 = some (tyX2 k) := by decide +kernel
abbrev cX2_init : ByteArray := prog_4_method_1_code
def yX2_init : MethodName := ⟨RX2, "<init>", "(LUnitVoices$Units;LUnitVoices$Row;LUnitVoices$Tree;[I)V"⟩
abbrev cX2_leafOfUnit : ByteArray := prog_4_method_2_code
def yX2_leafOfUnit : MethodName := ⟨RX2, "leafOfUnit", "(I)I"⟩
abbrev cX2_leafOfTarget : ByteArray := prog_4_method_3_code
def yX2_leafOfTarget : MethodName := ⟨RX2, "leafOfTarget", "(I)I"⟩
abbrev cX2_chooseAll : ByteArray := prog_4_method_4_code
def yX2_chooseAll : MethodName := ⟨RX2, "chooseAll", "(I)Z"⟩
abbrev cX2_choose : ByteArray := prog_4_method_5_code
def yX2_choose : MethodName := ⟨RX2, "choose", "(II)LUnitVoices$Choice;"⟩
abbrev cX2_findLeaves : ByteArray := prog_4_method_6_code
def yX2_findLeaves : MethodName := ⟨RX2, "findLeaves", "()V"⟩
abbrev cX2_chooseFor : ByteArray := prog_4_method_7_code
def yX2_chooseFor : MethodName := ⟨RX2, "chooseFor", "(II)V"⟩
abbrev cX2_climb : ByteArray := prog_4_method_8_code
def yX2_climb : MethodName := ⟨RX2, "climb", "(LUnitVoices$Choice;III)V"⟩
abbrev cX2_gather : ByteArray := prog_4_method_9_code
def yX2_gather : MethodName := ⟨RX2, "gather", "(LUnitVoices$Choice;III)V"⟩
def RX3 : String := "UnitVoices$Prices"
def TX3 : u_T := fun k => match k with
  | 0 => ("UnitVoices$Prices", "units", "LUnitVoices$Units;", true)
  | _ => ("UnitVoices$Prices", "row", "LUnitVoices$Row;", true)
def tyX3 : Nat → FieldType := fun k => match k with
  | 0 => .object "UnitVoices$Units"
  | _ => .object "UnitVoices$Row"
theorem nmX3 : ∀ a, a < 2 → ∀ b, b < 2 → a ≠ b → (TX3 a).2.1 ≠ (TX3 b).2.1 := by decide +kernel
theorem tyX3_ok : ∀ k, k < 2 → parseFieldDescriptor (TX3 k).2.2.1 = some (tyX3 k) := by decide +kernel
abbrev cX3_init : ByteArray := prog_5_method_1_code
def yX3_init : MethodName := ⟨RX3, "<init>", "(LUnitVoices$Units;LUnitVoices$Row;)V"⟩
abbrev cX3_ofFit : ByteArray := prog_5_method_2_code
def yX3_ofFit : MethodName := ⟨RX3, "ofFit", "(III)I"⟩
abbrev cX3_besidePart : ByteArray := prog_5_method_3_code
def yX3_besidePart : MethodName := ⟨RX3, "besidePart", "(II)I"⟩
abbrev cX3_ofJoint : ByteArray := prog_5_method_4_code
def yX3_ofJoint : MethodName := ⟨RX3, "ofJoint", "(II)I"⟩
def RX4 : String := "UnitVoices$Row"
def TX4 : u_T := fun k => match k with
  | 0 => ("UnitVoices$Row", "sound", "[I", true)
  | 1 => ("UnitVoices$Row", "pitch", "[I", true)
  | 2 => ("UnitVoices$Row", "length", "[I", true)
  | _ => ("UnitVoices$Row", "count", "I", false)
def tyX4 : Nat → FieldType := fun k => match k with
  | 0 => .array .int
  | 1 => .array .int
  | 2 => .array .int
  | _ => .int
theorem nmX4 : ∀ a, a < 4 → ∀ b, b < 4 → a ≠ b → (TX4 a).2.1 ≠ (TX4 b).2.1 := by decide +kernel
theorem tyX4_ok : ∀ k, k < 4 → parseFieldDescriptor (TX4 k).2.2.1 = some (tyX4 k) := by decide +kernel
abbrev cX4_init : ByteArray := prog_6_method_1_code
def yX4_init : MethodName := ⟨RX4, "<init>", "()V"⟩
abbrev cX4_add : ByteArray := prog_6_method_2_code
def yX4_add : MethodName := ⟨RX4, "add", "(III)V"⟩
abbrev cX4_become : ByteArray := prog_6_method_3_code
def yX4_become : MethodName := ⟨RX4, "become", "(LUnitVoices$Row;)V"⟩
abbrev cX4_leftOf : ByteArray := prog_6_method_4_code
def yX4_leftOf : MethodName := ⟨RX4, "leftOf", "(I)I"⟩
abbrev cX4_rightOf : ByteArray := prog_6_method_5_code
def yX4_rightOf : MethodName := ⟨RX4, "rightOf", "(I)I"⟩
def RX5 : String := "UnitVoices$Tally"
def TX5 : u_T := fun k => match k with
  | 0 => ("UnitVoices$Tally", "least", "[I", true)
  | 1 => ("UnitVoices$Tally", "second", "[I", true)
  | 2 => ("UnitVoices$Tally", "most", "[I", true)
  | 3 => ("UnitVoices$Tally", "ways", "[I", true)
  | _ => ("UnitVoices$Tally", "onward", "[I", true)
def tyX5 : Nat → FieldType := fun k => match k with
  | 0 => .array .int
  | 1 => .array .int
  | 2 => .array .int
  | 3 => .array .int
  | _ => .array .int
theorem nmX5 : ∀ a, a < 5 → ∀ b, b < 5 → a ≠ b → (TX5 a).2.1 ≠ (TX5 b).2.1 := by decide +kernel
theorem tyX5_ok : ∀ k, k < 5 → parseFieldDescriptor (TX5 k).2.2.1 = some (tyX5 k) := by decide +kernel
abbrev cX5_init : ByteArray := prog_7_method_1_code
def yX5_init : MethodName := ⟨RX5, "<init>", "(I)V"⟩
abbrev cX5_begin : ByteArray := prog_7_method_2_code
def yX5_begin : MethodName := ⟨RX5, "begin", "(I)V"⟩
abbrev cX5_end : ByteArray := prog_7_method_3_code
def yX5_end : MethodName := ⟨RX5, "end", "(I)V"⟩
abbrev cX5_offer : ByteArray := prog_7_method_4_code
def yX5_offer : MethodName := ⟨RX5, "offer", "(IILUnitVoices$Tally;I)V"⟩
def RX6 : String := "UnitVoices$Text"
def TX6 : u_T := fun k => match k with
  | 0 => ("UnitVoices$Text", "bytes", "[I", true)
  | 1 => ("UnitVoices$Text", "row", "LUnitVoices$Row;", true)
  | 2 => ("UnitVoices$Text", "tree", "LUnitVoices$Tree;", true)
  | 3 => ("UnitVoices$Text", "count", "I", false)
  | 4 => ("UnitVoices$Text", "tellsRow", "Z", false)
  | 5 => ("UnitVoices$Text", "place", "I", false)
  | _ => ("UnitVoices$Text", "fault", "I", false)
def tyX6 : Nat → FieldType := fun k => match k with
  | 0 => .array .int
  | 1 => .object "UnitVoices$Row"
  | 2 => .object "UnitVoices$Tree"
  | 3 => .int
  | 4 => .boolean
  | 5 => .int
  | _ => .int
theorem nmX6 : ∀ a, a < 7 → ∀ b, b < 7 → a ≠ b → (TX6 a).2.1 ≠ (TX6 b).2.1 := by decide +kernel
theorem tyX6_ok : ∀ k, k < 7 → parseFieldDescriptor (TX6 k).2.2.1 = some (tyX6 k) := by decide +kernel
abbrev cX6_init : ByteArray := prog_8_method_1_code
def yX6_init : MethodName := ⟨RX6, "<init>", "()V"⟩
abbrev cX6_add : ByteArray := prog_8_method_2_code
def yX6_add : MethodName := ⟨RX6, "add", "(I)V"⟩
abbrev cX6_read : ByteArray := prog_8_method_3_code
def yX6_read : MethodName := ⟨RX6, "read", "()I"⟩
abbrev cX6_readRow : ByteArray := prog_8_method_4_code
def yX6_readRow : MethodName := ⟨RX6, "readRow", "()V"⟩
abbrev cX6_readTarget : ByteArray := prog_8_method_5_code
def yX6_readTarget : MethodName := ⟨RX6, "readTarget", "(I)V"⟩
abbrev cX6_readTree : ByteArray := prog_8_method_6_code
def yX6_readTree : MethodName := ⟨RX6, "readTree", "()V"⟩
abbrev cX6_readNode : ByteArray := prog_8_method_7_code
def yX6_readNode : MethodName := ⟨RX6, "readNode", "(II)I"⟩
abbrev cX6_readBranches : ByteArray := prog_8_method_8_code
def yX6_readBranches : MethodName := ⟨RX6, "readBranches", "(II)I"⟩
abbrev cX6_isQuestion : ByteArray := prog_8_method_9_code
def yX6_isQuestion : MethodName := ⟨RX6, "isQuestion", "(I)Z"⟩
abbrev cX6_readEnd : ByteArray := prog_8_method_10_code
def yX6_readEnd : MethodName := ⟨RX6, "readEnd", "()V"⟩
abbrev cX6_readWord : ByteArray := prog_8_method_11_code
def yX6_readWord : MethodName := ⟨RX6, "readWord", "(Ljava/lang/String;)Z"⟩
abbrev cX6_readFigure : ByteArray := prog_8_method_12_code
def yX6_readFigure : MethodName := ⟨RX6, "readFigure", "(II)I"⟩
abbrev cX6_readSign : ByteArray := prog_8_method_13_code
def yX6_readSign : MethodName := ⟨RX6, "readSign", "(I)Z"⟩
abbrev cX6_look : ByteArray := prog_8_method_14_code
def yX6_look : MethodName := ⟨RX6, "look", "()I"⟩
abbrev cX6_fail : ByteArray := prog_8_method_15_code
def yX6_fail : MethodName := ⟨RX6, "fail", "()I"⟩
def RX7 : String := "UnitVoices$Tree"
def TX7 : u_T := fun k => match k with
  | 0 => ("UnitVoices$Tree", "letter", "[I", true)
  | 1 => ("UnitVoices$Tree", "figure", "[I", true)
  | 2 => ("UnitVoices$Tree", "above", "[I", true)
  | 3 => ("UnitVoices$Tree", "yes", "[I", true)
  | 4 => ("UnitVoices$Tree", "no", "[I", true)
  | 5 => ("UnitVoices$Tree", "number", "[I", true)
  | 6 => ("UnitVoices$Tree", "nodes", "I", false)
  | 7 => ("UnitVoices$Tree", "leaves", "I", false)
  | _ => ("UnitVoices$Tree", "height", "I", false)
def tyX7 : Nat → FieldType := fun k => match k with
  | 0 => .array .int
  | 1 => .array .int
  | 2 => .array .int
  | 3 => .array .int
  | 4 => .array .int
  | 5 => .array .int
  | 6 => .int
  | 7 => .int
  | _ => .int
theorem nmX7 : ∀ a, a < 9 → ∀ b, b < 9 → a ≠ b → (TX7 a).2.1 ≠ (TX7 b).2.1 := by decide +kernel
theorem tyX7_ok : ∀ k, k < 9 → parseFieldDescriptor (TX7 k).2.2.1 = some (tyX7 k) := by decide +kernel
abbrev cX7_init : ByteArray := prog_9_method_1_code
def yX7_init : MethodName := ⟨RX7, "<init>", "()V"⟩
abbrev cX7_removeAll : ByteArray := prog_9_method_2_code
def yX7_removeAll : MethodName := ⟨RX7, "removeAll", "()V"⟩
abbrev cX7_addLeaf : ByteArray := prog_9_method_3_code
def yX7_addLeaf : MethodName := ⟨RX7, "addLeaf", "(I)I"⟩
abbrev cX7_addQuestion : ByteArray := prog_9_method_4_code
def yX7_addQuestion : MethodName := ⟨RX7, "addQuestion", "(IIII)I"⟩
abbrev cX7_addNode : ByteArray := prog_9_method_5_code
def yX7_addNode : MethodName := ⟨RX7, "addNode", "(III)I"⟩
abbrev cX7_putBranches : ByteArray := prog_9_method_6_code
def yX7_putBranches : MethodName := ⟨RX7, "putBranches", "(III)V"⟩
abbrev cX7_become : ByteArray := prog_9_method_7_code
def yX7_become : MethodName := ⟨RX7, "become", "(LUnitVoices$Tree;)V"⟩
abbrev cX7_leafFor : ByteArray := prog_9_method_8_code
def yX7_leafFor : MethodName := ⟨RX7, "leafFor", "(IIII)I"⟩
abbrev cX7_saysYes : ByteArray := prog_9_method_9_code
def yX7_saysYes : MethodName := ⟨RX7, "saysYes", "(IIIII)Z"⟩
abbrev cX7_liesUnder : ByteArray := prog_9_method_10_code
def yX7_liesUnder : MethodName := ⟨RX7, "liesUnder", "(II)Z"⟩
abbrev cX7_nodeAbove : ByteArray := prog_9_method_11_code
def yX7_nodeAbove : MethodName := ⟨RX7, "nodeAbove", "(I)I"⟩
abbrev cX7_numberOf : ByteArray := prog_9_method_12_code
def yX7_numberOf : MethodName := ⟨RX7, "numberOf", "(I)I"⟩
abbrev cX7_isNode : ByteArray := prog_9_method_13_code
def yX7_isNode : MethodName := ⟨RX7, "isNode", "(I)Z"⟩
def RX8 : String := "UnitVoices$Units"
def TX8 : u_T := fun k => match k with
  | 0 => ("UnitVoices$Units", "sound", "[I", true)
  | 1 => ("UnitVoices$Units", "left", "[I", true)
  | 2 => ("UnitVoices$Units", "right", "[I", true)
  | 3 => ("UnitVoices$Units", "pitch", "[I", true)
  | 4 => ("UnitVoices$Units", "length", "[I", true)
  | 5 => ("UnitVoices$Units", "take", "[I", true)
  | 6 => ("UnitVoices$Units", "follower", "[I", true)
  | 7 => ("UnitVoices$Units", "newest", "[I", true)
  | _ => ("UnitVoices$Units", "count", "I", false)
def tyX8 : Nat → FieldType := fun k => match k with
  | 0 => .array .int
  | 1 => .array .int
  | 2 => .array .int
  | 3 => .array .int
  | 4 => .array .int
  | 5 => .array .int
  | 6 => .array .int
  | 7 => .array .int
  | _ => .int
theorem nmX8 : ∀ a, a < 9 → ∀ b, b < 9 → a ≠ b → (TX8 a).2.1 ≠ (TX8 b).2.1 := by decide +kernel
theorem tyX8_ok : ∀ k, k < 9 → parseFieldDescriptor (TX8 k).2.2.1 = some (tyX8 k) := by decide +kernel
abbrev cX8_init : ByteArray := prog_10_method_1_code
def yX8_init : MethodName := ⟨RX8, "<init>", "()V"⟩
abbrev cX8_removeAll : ByteArray := prog_10_method_2_code
def yX8_removeAll : MethodName := ⟨RX8, "removeAll", "()V"⟩
abbrev cX8_add : ByteArray := prog_10_method_3_code
def yX8_add : MethodName := ⟨RX8, "add", "(IIIIII)I"⟩
abbrev cX8_putRight : ByteArray := prog_10_method_4_code
def yX8_putRight : MethodName := ⟨RX8, "putRight", "(II)V"⟩
def RX9 : String := "UnitVoices"
def TX9 : u_T := fun k => match k with
  | 0 => ("UnitVoices", "units", "LUnitVoices$Units;", true)
  | 1 => ("UnitVoices", "row", "LUnitVoices$Row;", true)
  | 2 => ("UnitVoices", "tree", "LUnitVoices$Tree;", true)
  | 3 => ("UnitVoices", "text", "LUnitVoices$Text;", true)
  | 4 => ("UnitVoices", "others", "[I", true)
  | 5 => ("UnitVoices", "chooser", "LUnitVoices$Chooser;", true)
  | 6 => ("UnitVoices", "prices", "LUnitVoices$Prices;", true)
  | 7 => ("UnitVoices", "chains", "LUnitVoices$Chains;", true)
  | 8 => ("UnitVoices", "kind", "I", false)
  | 9 => ("UnitVoices", "bads", "I", false)
  | 10 => ("UnitVoices", "noes", "I", false)
  | _ => ("UnitVoices", "fulls", "I", false)
def tyX9 : Nat → FieldType := fun k => match k with
  | 0 => .object "UnitVoices$Units"
  | 1 => .object "UnitVoices$Row"
  | 2 => .object "UnitVoices$Tree"
  | 3 => .object "UnitVoices$Text"
  | 4 => .array .int
  | 5 => .object "UnitVoices$Chooser"
  | 6 => .object "UnitVoices$Prices"
  | 7 => .object "UnitVoices$Chains"
  | 8 => .int
  | 9 => .int
  | 10 => .int
  | _ => .int
theorem nmX9 : ∀ a, a < 12 → ∀ b, b < 12 → a ≠ b → (TX9 a).2.1 ≠ (TX9 b).2.1 := by decide +kernel
theorem tyX9_ok : ∀ k, k < 12 → parseFieldDescriptor (TX9 k).2.2.1 = some (tyX9 k) := by decide +kernel
abbrev cX9_init : ByteArray := prog_1_method_1_code
def yX9_init : MethodName := ⟨RX9, "<init>", "()V"⟩
abbrev cX9_unit : ByteArray := prog_1_method_2_code
def yX9_unit : MethodName := ⟨RX9, "unit", "(IIIIII)I"⟩
abbrev cX9_records : ByteArray := prog_1_method_3_code
def yX9_records : MethodName := ⟨RX9, "records", "(III)I"⟩
abbrev cX9_of : ByteArray := prog_1_method_4_code
def yX9_of : MethodName := ⟨RX9, "of", "(II)I"⟩
abbrev cX9_empties : ByteArray := prog_1_method_5_code
def yX9_empties : MethodName := ⟨RX9, "empties", "()I"⟩
abbrev cX9_other : ByteArray := prog_1_method_6_code
def yX9_other : MethodName := ⟨RX9, "other", "(II)I"⟩
abbrev cX9_fitter : ByteArray := prog_1_method_7_code
def yX9_fitter : MethodName := ⟨RX9, "fitter", "(I)I"⟩
abbrev cX9_type : ByteArray := prog_1_method_8_code
def yX9_type : MethodName := ⟨RX9, "type", "(I)I"⟩
abbrev cX9_clear : ByteArray := prog_1_method_9_code
def yX9_clear : MethodName := ⟨RX9, "clear", "()I"⟩
abbrev cX9_reads : ByteArray := prog_1_method_10_code
def yX9_reads : MethodName := ⟨RX9, "reads", "()I"⟩
abbrev cX9_target : ByteArray := prog_1_method_11_code
def yX9_target : MethodName := ⟨RX9, "target", "(II)I"⟩
abbrev cX9_tree : ByteArray := prog_1_method_12_code
def yX9_tree : MethodName := ⟨RX9, "tree", "(I)I"⟩
abbrev cX9_leaf : ByteArray := prog_1_method_13_code
def yX9_leaf : MethodName := ⟨RX9, "leaf", "(II)I"⟩
abbrev cX9_choice : ByteArray := prog_1_method_14_code
def yX9_choice : MethodName := ⟨RX9, "choice", "(II)I"⟩
abbrev cX9_steps : ByteArray := prog_1_method_15_code
def yX9_steps : MethodName := ⟨RX9, "steps", "(I)I"⟩
abbrev cX9_tried : ByteArray := prog_1_method_16_code
def yX9_tried : MethodName := ⟨RX9, "tried", "(I)I"⟩
abbrev cX9_fit : ByteArray := prog_1_method_17_code
def yX9_fit : MethodName := ⟨RX9, "fit", "(II)I"⟩
abbrev cX9_joint : ByteArray := prog_1_method_18_code
def yX9_joint : MethodName := ⟨RX9, "joint", "(II)I"⟩
abbrev cX9_cost : ByteArray := prog_1_method_19_code
def yX9_cost : MethodName := ⟨RX9, "cost", "()I"⟩
abbrev cX9_chain : ByteArray := prog_1_method_20_code
def yX9_chain : MethodName := ⟨RX9, "chain", "(I)I"⟩
abbrev cX9_ways : ByteArray := prog_1_method_21_code
def yX9_ways : MethodName := ⟨RX9, "ways", "()I"⟩
abbrev cX9_next : ByteArray := prog_1_method_22_code
def yX9_next : MethodName := ⟨RX9, "next", "()I"⟩
abbrev cX9_dearest : ByteArray := prog_1_method_23_code
def yX9_dearest : MethodName := ⟨RX9, "dearest", "()I"⟩
abbrev cX9_without : ByteArray := prog_1_method_24_code
def yX9_without : MethodName := ⟨RX9, "without", "(I)I"⟩
abbrev cX9_about : ByteArray := prog_1_method_25_code
def yX9_about : MethodName := ⟨RX9, "about", "(I)I"⟩
abbrev cX9_cheapest : ByteArray := prog_1_method_26_code
def yX9_cheapest : MethodName := ⟨RX9, "cheapest", "(I)I"⟩
abbrev cX9_told : ByteArray := prog_1_method_27_code
def yX9_told : MethodName := ⟨RX9, "told", "(I)I"⟩
abbrev cX9_digest : ByteArray := prog_1_method_28_code
def yX9_digest : MethodName := ⟨RX9, "digest", "()J"⟩
abbrev cX9_findChain : ByteArray := prog_1_method_29_code
def yX9_findChain : MethodName := ⟨RX9, "findChain", "(I)Z"⟩
abbrev cX9_emptyLeaves : ByteArray := prog_1_method_30_code
def yX9_emptyLeaves : MethodName := ⟨RX9, "emptyLeaves", "()I"⟩
abbrev cX9_isUnit : ByteArray := prog_1_method_31_code
def yX9_isUnit : MethodName := ⟨RX9, "isUnit", "(I)Z"⟩
abbrev cX9_isTarget : ByteArray := prog_1_method_32_code
def yX9_isTarget : MethodName := ⟨RX9, "isTarget", "(I)Z"⟩
abbrev cX9_isPlace : ByteArray := prog_1_method_33_code
def yX9_isPlace : MethodName := ⟨RX9, "isPlace", "(I)Z"⟩
abbrev cX9_isSound : ByteArray := prog_1_method_34_code
def yX9_isSound : MethodName := ⟨RX9, "isSound", "(I)Z"⟩
abbrev cX9_isTake : ByteArray := prog_1_method_35_code
def yX9_isTake : MethodName := ⟨RX9, "isTake", "(I)Z"⟩
abbrev cX9_within : ByteArray := prog_1_method_36_code
def yX9_within : MethodName := ⟨RX9, "within", "(III)Z"⟩
abbrev cX9_bad : ByteArray := prog_1_method_37_code
def yX9_bad : MethodName := ⟨RX9, "bad", "()I"⟩
abbrev cX9_no : ByteArray := prog_1_method_38_code
def yX9_no : MethodName := ⟨RX9, "no", "()I"⟩
abbrev cX9_full : ByteArray := prog_1_method_39_code
def yX9_full : MethodName := ⟨RX9, "full", "()I"⟩
def RX10 : String := "UnitVoicesModel"
def TX10 : u_T := fun k => match k with
  | 0 => ("UnitVoicesModel", "units", "[I", true)
  | 1 => ("UnitVoicesModel", "many", "I", false)
  | 2 => ("UnitVoicesModel", "row", "[I", true)
  | 3 => ("UnitVoicesModel", "rowLong", "I", false)
  | 4 => ("UnitVoicesModel", "others", "[I", true)
  | 5 => ("UnitVoicesModel", "kind", "I", false)
  | 6 => ("UnitVoicesModel", "nodeIs", "[I", true)
  | 7 => ("UnitVoicesModel", "nodeFigure", "[I", true)
  | 8 => ("UnitVoicesModel", "nodeYes", "[I", true)
  | 9 => ("UnitVoicesModel", "nodeNo", "[I", true)
  | 10 => ("UnitVoicesModel", "leaves", "I", false)
  | 11 => ("UnitVoicesModel", "deepest", "I", false)
  | 12 => ("UnitVoicesModel", "refused", "[I", true)
  | 13 => ("UnitVoicesModel", "text", "[I", true)
  | 14 => ("UnitVoicesModel", "textLong", "I", false)
  | 15 => ("UnitVoicesModel", "place", "I", false)
  | 16 => ("UnitVoicesModel", "readRow", "[I", true)
  | 17 => ("UnitVoicesModel", "readIs", "[I", true)
  | 18 => ("UnitVoicesModel", "readFigure", "[I", true)
  | 19 => ("UnitVoicesModel", "readYes", "[I", true)
  | 20 => ("UnitVoicesModel", "readNo", "[I", true)
  | 21 => ("UnitVoicesModel", "readLeaves", "I", false)
  | 22 => ("UnitVoicesModel", "readDeep", "I", false)
  | 23 => ("UnitVoicesModel", "open", "[I", true)
  | 24 => ("UnitVoicesModel", "has", "[I", true)
  | 25 => ("UnitVoicesModel", "chosen", "[I", true)
  | 26 => ("UnitVoicesModel", "chosenLong", "[I", true)
  | 27 => ("UnitVoicesModel", "gone", "I", false)
  | 28 => ("UnitVoicesModel", "stepsNow", "I", false)
  | 29 => ("UnitVoicesModel", "triedNow", "I", false)
  | 30 => ("UnitVoicesModel", "cheap", "[I", true)
  | 31 => ("UnitVoicesModel", "second", "[I", true)
  | 32 => ("UnitVoicesModel", "dear", "[I", true)
  | 33 => ("UnitVoicesModel", "counts", "[I", true)
  | 34 => ("UnitVoicesModel", "cheapestOf", "I", false)
  | 35 => ("UnitVoicesModel", "nextCheapest", "I", false)
  | 36 => ("UnitVoicesModel", "dearestOf", "I", false)
  | 37 => ("UnitVoicesModel", "waysOf", "I", false)
  | 38 => ("UnitVoicesModel", "chainNow", "[I", true)
  | _ => ("UnitVoicesModel", "byKind", "I", false)
def tyX10 : Nat → FieldType := fun k => match k with
  | 0 => .array .int
  | 1 => .int
  | 2 => .array .int
  | 3 => .int
  | 4 => .array .int
  | 5 => .int
  | 6 => .array .int
  | 7 => .array .int
  | 8 => .array .int
  | 9 => .array .int
  | 10 => .int
  | 11 => .int
  | 12 => .array .int
  | 13 => .array .int
  | 14 => .int
  | 15 => .int
  | 16 => .array .int
  | 17 => .array .int
  | 18 => .array .int
  | 19 => .array .int
  | 20 => .array .int
  | 21 => .int
  | 22 => .int
  | 23 => .array .int
  | 24 => .array .int
  | 25 => .array .int
  | 26 => .array .int
  | 27 => .int
  | 28 => .int
  | 29 => .int
  | 30 => .array .int
  | 31 => .array .int
  | 32 => .array .int
  | 33 => .array .int
  | 34 => .int
  | 35 => .int
  | 36 => .int
  | 37 => .int
  | 38 => .array .int
  | _ => .int
theorem nmX10 : ∀ a, a < 40 → ∀ b, b < 40 → a ≠ b → (TX10 a).2.1 ≠ (TX10 b).2.1 := by decide +kernel
theorem tyX10_ok : ∀ k, k < 40 → parseFieldDescriptor (TX10 k).2.2.1 = some (tyX10 k) := by decide +kernel
abbrev cX10_init : ByteArray := prog_12_method_1_code
def yX10_init : MethodName := ⟨RX10, "<init>", "()V"⟩
abbrev cX10_in : ByteArray := prog_12_method_3_code
def yX10_in : MethodName := ⟨RX10, "in", "(JJJ)Z"⟩
abbrev cX10_bad : ByteArray := prog_12_method_4_code
def yX10_bad : MethodName := ⟨RX10, "bad", "(I)I"⟩
abbrev cX10_no : ByteArray := prog_12_method_5_code
def yX10_no : MethodName := ⟨RX10, "no", "()I"⟩
abbrev cX10_full : ByteArray := prog_12_method_6_code
def yX10_full : MethodName := ⟨RX10, "full", "()I"⟩
abbrev cX10_far : ByteArray := prog_12_method_7_code
def yX10_far : MethodName := ⟨RX10, "far", "(II)I"⟩
abbrev cX10_at : ByteArray := prog_12_method_8_code
def yX10_at : MethodName := ⟨RX10, "at", "(II)I"⟩
abbrev cX10_isUnit : ByteArray := prog_12_method_9_code
def yX10_isUnit : MethodName := ⟨RX10, "isUnit", "(I)Z"⟩
abbrev cX10_isSound : ByteArray := prog_12_method_10_code
def yX10_isSound : MethodName := ⟨RX10, "isSound", "(I)Z"⟩
abbrev cX10_lays : ByteArray := prog_12_method_11_code
def yX10_lays : MethodName := ⟨RX10, "lays", "(IIIIII)V"⟩
abbrev cX10_unit : ByteArray := prog_12_method_12_code
def yX10_unit : MethodName := ⟨RX10, "unit", "(IIIIII)I"⟩
abbrev cX10_records : ByteArray := prog_12_method_13_code
def yX10_records : MethodName := ⟨RX10, "records", "(III)I"⟩
abbrev cX10_nextOf : ByteArray := prog_12_method_14_code
def yX10_nextOf : MethodName := ⟨RX10, "nextOf", "(I)I"⟩
abbrev cX10_of : ByteArray := prog_12_method_15_code
def yX10_of : MethodName := ⟨RX10, "of", "(II)I"⟩
abbrev cX10_empties : ByteArray := prog_12_method_16_code
def yX10_empties : MethodName := ⟨RX10, "empties", "()I"⟩
abbrev cX10_other : ByteArray := prog_12_method_17_code
def yX10_other : MethodName := ⟨RX10, "other", "(II)I"⟩
abbrev cX10_fitter : ByteArray := prog_12_method_18_code
def yX10_fitter : MethodName := ⟨RX10, "fitter", "(I)I"⟩
abbrev cX10_type : ByteArray := prog_12_method_19_code
def yX10_type : MethodName := ⟨RX10, "type", "(I)I"⟩
abbrev cX10_clear : ByteArray := prog_12_method_20_code
def yX10_clear : MethodName := ⟨RX10, "clear", "()I"⟩
abbrev cX10_here : ByteArray := prog_12_method_21_code
def yX10_here : MethodName := ⟨RX10, "here", "()I"⟩
abbrev cX10_takes : ByteArray := prog_12_method_22_code
def yX10_takes : MethodName := ⟨RX10, "takes", "(II)I"⟩
abbrev cX10_letterOf : ByteArray := prog_12_method_23_code
def yX10_letterOf : MethodName := ⟨RX10, "letterOf", "(II)I"⟩
abbrev cX10_takesWord : ByteArray := prog_12_method_24_code
def yX10_takesWord : MethodName := ⟨RX10, "takesWord", "()I"⟩
abbrev cX10_readsRow : ByteArray := prog_12_method_25_code
def yX10_readsRow : MethodName := ⟨RX10, "readsRow", "()I"⟩
abbrev cX10_questionOf : ByteArray := prog_12_method_26_code
def yX10_questionOf : MethodName := ⟨RX10, "questionOf", "(I)I"⟩
abbrev cX10_hangs : ByteArray := prog_12_method_27_code
def yX10_hangs : MethodName := ⟨RX10, "hangs", "(II)V"⟩
abbrev cX10_readsTree : ByteArray := prog_12_method_28_code
def yX10_readsTree : MethodName := ⟨RX10, "readsTree", "()I"⟩
abbrev cX10_reads : ByteArray := prog_12_method_29_code
def yX10_reads : MethodName := ⟨RX10, "reads", "()I"⟩
abbrev cX10_isTarget : ByteArray := prog_12_method_30_code
def yX10_isTarget : MethodName := ⟨RX10, "isTarget", "(I)Z"⟩
abbrev cX10_targetLeft : ByteArray := prog_12_method_31_code
def yX10_targetLeft : MethodName := ⟨RX10, "targetLeft", "(I)I"⟩
abbrev cX10_targetRight : ByteArray := prog_12_method_32_code
def yX10_targetRight : MethodName := ⟨RX10, "targetRight", "(I)I"⟩
abbrev cX10_target : ByteArray := prog_12_method_33_code
def yX10_target : MethodName := ⟨RX10, "target", "(II)I"⟩
abbrev cX10_answers : ByteArray := prog_12_method_34_code
def yX10_answers : MethodName := ⟨RX10, "answers", "(IIIII)Z"⟩
abbrev cX10_unitAnswers : ByteArray := prog_12_method_35_code
def yX10_unitAnswers : MethodName := ⟨RX10, "unitAnswers", "(II)Z"⟩
abbrev cX10_targetAnswers : ByteArray := prog_12_method_36_code
def yX10_targetAnswers : MethodName := ⟨RX10, "targetAnswers", "(II)Z"⟩
abbrev cX10_leafOf : ByteArray := prog_12_method_37_code
def yX10_leafOf : MethodName := ⟨RX10, "leafOf", "(ZI)I"⟩
abbrev cX10_emptyLeaves : ByteArray := prog_12_method_38_code
def yX10_emptyLeaves : MethodName := ⟨RX10, "emptyLeaves", "()I"⟩
abbrev cX10_tree : ByteArray := prog_12_method_39_code
def yX10_tree : MethodName := ⟨RX10, "tree", "(I)I"⟩
abbrev cX10_leaf : ByteArray := prog_12_method_40_code
def yX10_leaf : MethodName := ⟨RX10, "leaf", "(II)I"⟩
abbrev cX10_wayLong : ByteArray := prog_12_method_41_code
def yX10_wayLong : MethodName := ⟨RX10, "wayLong", "(I)I"⟩
abbrev cX10_goesAlong : ByteArray := prog_12_method_42_code
def yX10_goesAlong : MethodName := ⟨RX10, "goesAlong", "(II)I"⟩
abbrev cX10_chooses : ByteArray := prog_12_method_43_code
def yX10_chooses : MethodName := ⟨RX10, "chooses", "(I)Z"⟩
abbrev cX10_choice : ByteArray := prog_12_method_44_code
def yX10_choice : MethodName := ⟨RX10, "choice", "(II)I"⟩
abbrev cX10_steps : ByteArray := prog_12_method_45_code
def yX10_steps : MethodName := ⟨RX10, "steps", "(I)I"⟩
abbrev cX10_tried : ByteArray := prog_12_method_46_code
def yX10_tried : MethodName := ⟨RX10, "tried", "(I)I"⟩
abbrev cX10_fitAs : ByteArray := prog_12_method_47_code
def yX10_fitAs : MethodName := ⟨RX10, "fitAs", "(III)I"⟩
abbrev cX10_fit : ByteArray := prog_12_method_48_code
def yX10_fit : MethodName := ⟨RX10, "fit", "(II)I"⟩
abbrev cX10_jointOf : ByteArray := prog_12_method_49_code
def yX10_jointOf : MethodName := ⟨RX10, "jointOf", "(II)I"⟩
abbrev cX10_joint : ByteArray := prog_12_method_50_code
def yX10_joint : MethodName := ⟨RX10, "joint", "(II)I"⟩
abbrev cX10_begins : ByteArray := prog_12_method_51_code
def yX10_begins : MethodName := ⟨RX10, "begins", "()V"⟩
abbrev cX10_offers : ByteArray := prog_12_method_52_code
def yX10_offers : MethodName := ⟨RX10, "offers", "(I)V"⟩
abbrev cX10_takesIn : ByteArray := prog_12_method_53_code
def yX10_takesIn : MethodName := ⟨RX10, "takesIn", "(II)V"⟩
abbrev cX10_chains : ByteArray := prog_12_method_54_code
def yX10_chains : MethodName := ⟨RX10, "chains", "(I)Z"⟩
abbrev cX10_layChain : ByteArray := prog_12_method_55_code
def yX10_layChain : MethodName := ⟨RX10, "layChain", "()V"⟩
abbrev cX10_fitNow : ByteArray := prog_12_method_56_code
def yX10_fitNow : MethodName := ⟨RX10, "fitNow", "(II)I"⟩
abbrev cX10_chainsNow : ByteArray := prog_12_method_57_code
def yX10_chainsNow : MethodName := ⟨RX10, "chainsNow", "()Z"⟩
abbrev cX10_cost : ByteArray := prog_12_method_58_code
def yX10_cost : MethodName := ⟨RX10, "cost", "()I"⟩
abbrev cX10_chain : ByteArray := prog_12_method_59_code
def yX10_chain : MethodName := ⟨RX10, "chain", "(I)I"⟩
abbrev cX10_ways : ByteArray := prog_12_method_60_code
def yX10_ways : MethodName := ⟨RX10, "ways", "()I"⟩
abbrev cX10_next : ByteArray := prog_12_method_61_code
def yX10_next : MethodName := ⟨RX10, "next", "()I"⟩
abbrev cX10_dearest : ByteArray := prog_12_method_62_code
def yX10_dearest : MethodName := ⟨RX10, "dearest", "()I"⟩
abbrev cX10_without : ByteArray := prog_12_method_63_code
def yX10_without : MethodName := ⟨RX10, "without", "(I)I"⟩
abbrev cX10_about : ByteArray := prog_12_method_64_code
def yX10_about : MethodName := ⟨RX10, "about", "(I)I"⟩
abbrev cX10_cheapest : ByteArray := prog_12_method_65_code
def yX10_cheapest : MethodName := ⟨RX10, "cheapest", "(I)I"⟩
abbrev cX10_toldOf : ByteArray := prog_12_method_66_code
def yX10_toldOf : MethodName := ⟨RX10, "toldOf", "(I)I"⟩
abbrev cX10_told : ByteArray := prog_12_method_67_code
def yX10_told : MethodName := ⟨RX10, "told", "(I)I"⟩
abbrev cX10_sums : ByteArray := prog_12_method_68_code
def yX10_sums : MethodName := ⟨RX10, "sums", "(J[II)J"⟩
abbrev cX10_digest : ByteArray := prog_12_method_69_code
def yX10_digest : MethodName := ⟨RX10, "digest", "()J"⟩
def RJ13 : String := "java/lang/Long"
def TJ13 : u_T := fun k => match k with
  | _ => ("", "", "", false)
def tyJ13 : Nat → FieldType := fun k => match k with
  | _ => .int
theorem nmJ13 : ∀ a, a < 0 → ∀ b, b < 0 → a ≠ b → (TJ13 a).2.1 ≠ (TJ13 b).2.1 := by decide +kernel
theorem tyJ13_ok : ∀ k, k < 0 → parseFieldDescriptor (TJ13 k).2.2.1 = some (tyJ13 k) := by decide +kernel
abbrev cJ13_bitCount_95d88 : ByteArray := prog_13_method_50_code
def yJ13_bitCount_95d88 : MethodName := ⟨RJ13, "bitCount", "(J)I"⟩
def RJ9 : String := "java/lang/Math"
def TJ9 : u_T := fun k => match k with
  | _ => ("", "", "", false)
def tyJ9 : Nat → FieldType := fun k => match k with
  | _ => .int
theorem nmJ9 : ∀ a, a < 0 → ∀ b, b < 0 → a ≠ b → (TJ9 a).2.1 ≠ (TJ9 b).2.1 := by decide +kernel
theorem tyJ9_ok : ∀ k, k < 0 → parseFieldDescriptor (TJ9 k).2.2.1 = some (tyJ9 k) := by decide +kernel
abbrev cJ9_abs_0f7a4 : ByteArray := prog_14_method_59_code
def yJ9_abs_0f7a4 : MethodName := ⟨RJ9, "abs", "(I)I"⟩
abbrev cJ9_max_7cf53 : ByteArray := prog_14_method_65_code
def yJ9_max_7cf53 : MethodName := ⟨RJ9, "max", "(II)I"⟩
abbrev cJ9_min_7cf53 : ByteArray := prog_14_method_69_code
def yJ9_min_7cf53 : MethodName := ⟨RJ9, "min", "(II)I"⟩
def RJ0 : String := "java/lang/String"
def TJ0 : u_T := fun k => match k with
  | _ => ("", "", "", false)
def tyJ0 : Nat → FieldType := fun k => match k with
  | _ => .int
theorem nmJ0 : ∀ a, a < 0 → ∀ b, b < 0 → a ≠ b → (TJ0 a).2.1 ≠ (TJ0 b).2.1 := by decide +kernel
theorem tyJ0_ok : ∀ k, k < 0 → parseFieldDescriptor (TJ0 k).2.2.1 = some (tyJ0 k) := by decide +kernel
abbrev cJ0_length_8abf5 : ByteArray := prog_15_method_54_code
def yJ0_length_8abf5 : MethodName := ⟨RJ0, "length", "()I"⟩
abbrev cJ0_charAt_5068e : ByteArray := prog_15_method_56_code
def yJ0_charAt_5068e : MethodName := ⟨RJ0, "charAt", "(I)C"⟩
abbrev cJ0_coder_7d493 : ByteArray := prog_15_method_152_code
def yJ0_coder_7d493 : MethodName := ⟨RJ0, "coder", "()B"⟩
abbrev cJ0_isLatin1_aae02 : ByteArray := prog_15_method_154_code
def yJ0_isLatin1_aae02 : MethodName := ⟨RJ0, "isLatin1", "()Z"⟩
abbrev cJ0_checkIndex_df160 : ByteArray := prog_15_method_155_code
def yJ0_checkIndex_df160 : MethodName := ⟨RJ0, "checkIndex", "(II)V"⟩
def RJ1 : String := "java/lang/StringLatin1"
def TJ1 : u_T := fun k => match k with
  | _ => ("", "", "", false)
def tyJ1 : Nat → FieldType := fun k => match k with
  | _ => .int
theorem nmJ1 : ∀ a, a < 0 → ∀ b, b < 0 → a ≠ b → (TJ1 a).2.1 ≠ (TJ1 b).2.1 := by decide +kernel
theorem tyJ1_ok : ∀ k, k < 0 → parseFieldDescriptor (TJ1 k).2.2.1 = some (tyJ1 k) := by decide +kernel
abbrev cJ1_charAt_3b067 : ByteArray := prog_16_method_2_code
def yJ1_charAt_3b067 : MethodName := ⟨RJ1, "charAt", "([BI)C"⟩
def RJ2 : String := "java/lang/StringUTF16"
def TJ2 : u_T := fun k => match k with
  | _ => ("", "", "", false)
def tyJ2 : Nat → FieldType := fun k => match k with
  | _ => .int
theorem nmJ2 : ∀ a, a < 0 → ∀ b, b < 0 → a ≠ b → (TJ2 a).2.1 ≠ (TJ2 b).2.1 := by decide +kernel
theorem tyJ2_ok : ∀ k, k < 0 → parseFieldDescriptor (TJ2 k).2.2.1 = some (tyJ2 k) := by decide +kernel
abbrev cJ2_getChar_3b067 : ByteArray := prog_17_method_5_code
def yJ2_getChar_3b067 : MethodName := ⟨RJ2, "getChar", "([BI)C"⟩
abbrev cJ2_length_9d52b : ByteArray := prog_17_method_6_code
def yJ2_length_9d52b : MethodName := ⟨RJ2, "length", "([B)I"⟩
abbrev cJ2_charAt_3b067 : ByteArray := prog_17_method_83_code
def yJ2_charAt_3b067 : MethodName := ⟨RJ2, "charAt", "([BI)C"⟩
abbrev cJ2_checkIndex_2214a : ByteArray := prog_17_method_91_code
def yJ2_checkIndex_2214a : MethodName := ⟨RJ2, "checkIndex", "(I[B)V"⟩
def RJ3 : String := "jdk/internal/util/Preconditions"
def TJ3 : u_T := fun k => match k with
  | _ => ("", "", "", false)
def tyJ3 : Nat → FieldType := fun k => match k with
  | _ => .int
theorem nmJ3 : ∀ a, a < 0 → ∀ b, b < 0 → a ≠ b → (TJ3 a).2.1 ≠ (TJ3 b).2.1 := by decide +kernel
theorem tyJ3_ok : ∀ k, k < 0 → parseFieldDescriptor (TJ3 k).2.2.1 = some (tyJ3 k) := by decide +kernel
abbrev cJ3_checkIndex_8e157 : ByteArray := prog_18_method_11_code
def yJ3_checkIndex_8e157 : MethodName := ⟨RJ3, "checkIndex", "(IILjava/util/function/BiFunction;)I"⟩
def RL : String := "UnitVoicesLaw"
abbrev cL_law : ByteArray := code
def yL_law : MethodName := ⟨RL, "law", "([I)Z"⟩
abbrev uvCl : List vw_C := [(RX0, TX0, 7), (RX1, TX1, 4), (RX2, TX2, 6), (RX3, TX3, 2), (RX4, TX4, 4), (RX5, TX5, 5), (RX6, TX6, 7), (RX7, TX7, 9), (RX8, TX8, 9), (RX9, TX9, 12), (RX10, TX10, 40)]
end
section
theorem dX0_init_0 : decode cX0_init 0 = .ok (.aload_n 0, 1) := by decide +kernel
theorem dX0_init_1 : decode cX0_init 1 = .ok (.invokespecial 3, 3) := by decide +kernel
theorem dX0_init_4 : decode cX0_init 4 = .ok (.aload_n 0, 1) := by decide +kernel
theorem dX0_init_5 : decode cX0_init 5 = .ok (.bipush 8, 2) := by decide +kernel
theorem dX0_init_7 : decode cX0_init 7 = .ok (.anewarray 9, 3) := by decide +kernel
theorem dX0_init_10 : decode cX0_init 10 = .ok (.putfield 11, 3) := by decide +kernel
theorem dX0_init_13 : decode cX0_init 13 = .ok (.aload_n 0, 1) := by decide +kernel
theorem dX0_init_14 : decode cX0_init 14 = .ok (.new 9, 3) := by decide +kernel
theorem dX0_init_17 : decode cX0_init 17 = .ok (.dup, 1) := by decide +kernel
theorem dX0_init_18 : decode cX0_init 18 = .ok (.iconst 1, 1) := by decide +kernel
theorem dX0_init_19 : decode cX0_init 19 = .ok (.invokespecial 17, 3) := by decide +kernel
theorem dX0_init_22 : decode cX0_init 22 = .ok (.putfield 20, 3) := by decide +kernel
theorem dX0_init_25 : decode cX0_init 25 = .ok (.aload_n 0, 1) := by decide +kernel
theorem dX0_init_26 : decode cX0_init 26 = .ok (.new 9, 3) := by decide +kernel
theorem dX0_init_29 : decode cX0_init 29 = .ok (.dup, 1) := by decide +kernel
theorem dX0_init_30 : decode cX0_init 30 = .ok (.iconst 1, 1) := by decide +kernel
theorem dX0_init_31 : decode cX0_init 31 = .ok (.invokespecial 17, 3) := by decide +kernel
theorem dX0_init_34 : decode cX0_init 34 = .ok (.putfield 24, 3) := by decide +kernel
theorem dX0_init_37 : decode cX0_init 37 = .ok (.aload_n 0, 1) := by decide +kernel
theorem dX0_init_38 : decode cX0_init 38 = .ok (.bipush 8, 2) := by decide +kernel
theorem dX0_init_40 : decode cX0_init 40 = .ok (.newarray .int, 2) := by decide +kernel
theorem dX0_init_42 : decode cX0_init 42 = .ok (.putfield 27, 3) := by decide +kernel
theorem dX0_init_45 : decode cX0_init 45 = .ok (.aload_n 0, 1) := by decide +kernel
theorem dX0_init_46 : decode cX0_init 46 = .ok (.aload_n 1, 1) := by decide +kernel
theorem dX0_init_47 : decode cX0_init 47 = .ok (.putfield 31, 3) := by decide +kernel
theorem dX0_init_50 : decode cX0_init 50 = .ok (.aload_n 0, 1) := by decide +kernel
theorem dX0_init_51 : decode cX0_init 51 = .ok (.aload_n 2, 1) := by decide +kernel
theorem dX0_init_52 : decode cX0_init 52 = .ok (.getfield 35, 3) := by decide +kernel
theorem dX0_init_55 : decode cX0_init 55 = .ok (.putfield 41, 3) := by decide +kernel
theorem dX0_init_58 : decode cX0_init 58 = .ok (.aload_n 0, 1) := by decide +kernel
theorem dX0_init_59 : decode cX0_init 59 = .ok (.aload_n 3, 1) := by decide +kernel
theorem dX0_init_60 : decode cX0_init 60 = .ok (.putfield 42, 3) := by decide +kernel
theorem dX0_init_63 : decode cX0_init 63 = .ok (.iconst 0, 1) := by decide +kernel
theorem dX0_init_64 : decode cX0_init 64 = .ok (.istore 4, 2) := by decide +kernel
theorem dX0_init_66 : decode cX0_init 66 = .ok (.iload 4, 2) := by decide +kernel
theorem dX0_init_68 : decode cX0_init 68 = .ok (.bipush 8, 2) := by decide +kernel
theorem dX0_init_70 : decode cX0_init 70 = .ok (.if_icmp .ge 25, 3) := by decide +kernel
theorem dX0_init_73 : decode cX0_init 73 = .ok (.aload_n 0, 1) := by decide +kernel
theorem dX0_init_74 : decode cX0_init 74 = .ok (.getfield 11, 3) := by decide +kernel
theorem dX0_init_77 : decode cX0_init 77 = .ok (.iload 4, 2) := by decide +kernel
theorem dX0_init_79 : decode cX0_init 79 = .ok (.new 9, 3) := by decide +kernel
theorem dX0_init_82 : decode cX0_init 82 = .ok (.dup, 1) := by decide +kernel
theorem dX0_init_83 : decode cX0_init 83 = .ok (.bipush 40, 2) := by decide +kernel
theorem dX0_init_85 : decode cX0_init 85 = .ok (.invokespecial 17, 3) := by decide +kernel
theorem dX0_init_88 : decode cX0_init 88 = .ok (.aastore, 1) := by decide +kernel
theorem dX0_init_89 : decode cX0_init 89 = .ok (.iinc 4 1, 3) := by decide +kernel
theorem dX0_init_92 : decode cX0_init 92 = .ok (.goto (-26), 3) := by decide +kernel
theorem dX0_init_95 : decode cX0_init 95 = .ok (.aload_n 0, 1) := by decide +kernel
theorem dX0_init_96 : decode cX0_init 96 = .ok (.getfield 24, 3) := by decide +kernel
theorem dX0_init_99 : decode cX0_init 99 = .ok (.iconst 0, 1) := by decide +kernel
theorem dX0_init_100 : decode cX0_init 100 = .ok (.invokevirtual 46, 3) := by decide +kernel
theorem dX0_init_103 : decode cX0_init 103 = .ok (.return_, 1) := by decide +kernel
theorem dX0_weigh_0 : decode cX0_weigh 0 = .ok (.aload_n 0, 1) := by decide +kernel
theorem dX0_weigh_1 : decode cX0_weigh 1 = .ok (.getfield 31, 3) := by decide +kernel
theorem dX0_weigh_4 : decode cX0_weigh 4 = .ok (.getfield 49, 3) := by decide +kernel
theorem dX0_weigh_7 : decode cX0_weigh 7 = .ok (.iconst 1, 1) := by decide +kernel
theorem dX0_weigh_8 : decode cX0_weigh 8 = .ok (.isub, 1) := by decide +kernel
theorem dX0_weigh_9 : decode cX0_weigh 9 = .ok (.istore_n 2, 1) := by decide +kernel
theorem dX0_weigh_10 : decode cX0_weigh 10 = .ok (.iload_n 2, 1) := by decide +kernel
theorem dX0_weigh_11 : decode cX0_weigh 11 = .ok (.ifCond .lt 37, 3) := by decide +kernel
theorem dX0_weigh_14 : decode cX0_weigh 14 = .ok (.iconst 0, 1) := by decide +kernel
theorem dX0_weigh_15 : decode cX0_weigh 15 = .ok (.istore_n 3, 1) := by decide +kernel
theorem dX0_weigh_16 : decode cX0_weigh 16 = .ok (.iload_n 3, 1) := by decide +kernel
theorem dX0_weigh_17 : decode cX0_weigh 17 = .ok (.aload_n 0, 1) := by decide +kernel
theorem dX0_weigh_18 : decode cX0_weigh 18 = .ok (.getfield 41, 3) := by decide +kernel
theorem dX0_weigh_21 : decode cX0_weigh 21 = .ok (.iload_n 2, 1) := by decide +kernel
theorem dX0_weigh_22 : decode cX0_weigh 22 = .ok (.aaload, 1) := by decide +kernel
theorem dX0_weigh_23 : decode cX0_weigh 23 = .ok (.getfield 55, 3) := by decide +kernel
theorem dX0_weigh_26 : decode cX0_weigh 26 = .ok (.if_icmp .ge 16, 3) := by decide +kernel
theorem dX0_weigh_29 : decode cX0_weigh 29 = .ok (.aload_n 0, 1) := by decide +kernel
theorem dX0_weigh_30 : decode cX0_weigh 30 = .ok (.iload_n 1, 1) := by decide +kernel
theorem dX0_weigh_31 : decode cX0_weigh 31 = .ok (.iload_n 2, 1) := by decide +kernel
theorem dX0_weigh_32 : decode cX0_weigh 32 = .ok (.iload_n 3, 1) := by decide +kernel
theorem dX0_weigh_33 : decode cX0_weigh 33 = .ok (.invokevirtual 58, 3) := by decide +kernel
theorem dX0_weigh_36 : decode cX0_weigh 36 = .ok (.iinc 3 1, 3) := by decide +kernel
theorem dX0_weigh_39 : decode cX0_weigh 39 = .ok (.goto (-23), 3) := by decide +kernel
theorem dX0_weigh_42 : decode cX0_weigh 42 = .ok (.iinc 2 (-1), 3) := by decide +kernel
theorem dX0_weigh_45 : decode cX0_weigh 45 = .ok (.goto (-35), 3) := by decide +kernel
theorem dX0_weigh_48 : decode cX0_weigh 48 = .ok (.aload_n 0, 1) := by decide +kernel
theorem dX0_weigh_49 : decode cX0_weigh 49 = .ok (.getfield 20, 3) := by decide +kernel
theorem dX0_weigh_52 : decode cX0_weigh 52 = .ok (.iconst 0, 1) := by decide +kernel
theorem dX0_weigh_53 : decode cX0_weigh 53 = .ok (.invokevirtual 62, 3) := by decide +kernel
theorem dX0_weigh_56 : decode cX0_weigh 56 = .ok (.iconst 0, 1) := by decide +kernel
theorem dX0_weigh_57 : decode cX0_weigh 57 = .ok (.istore_n 2, 1) := by decide +kernel
theorem dX0_weigh_58 : decode cX0_weigh 58 = .ok (.iload_n 2, 1) := by decide +kernel
theorem dX0_weigh_59 : decode cX0_weigh 59 = .ok (.aload_n 0, 1) := by decide +kernel
theorem dX0_weigh_60 : decode cX0_weigh 60 = .ok (.getfield 41, 3) := by decide +kernel
theorem dX0_weigh_63 : decode cX0_weigh 63 = .ok (.iconst 0, 1) := by decide +kernel
theorem dX0_weigh_64 : decode cX0_weigh 64 = .ok (.aaload, 1) := by decide +kernel
theorem dX0_weigh_65 : decode cX0_weigh 65 = .ok (.getfield 55, 3) := by decide +kernel
theorem dX0_weigh_68 : decode cX0_weigh 68 = .ok (.if_icmp .ge 25, 3) := by decide +kernel
theorem dX0_weigh_71 : decode cX0_weigh 71 = .ok (.aload_n 0, 1) := by decide +kernel
theorem dX0_weigh_72 : decode cX0_weigh 72 = .ok (.getfield 20, 3) := by decide +kernel
theorem dX0_weigh_75 : decode cX0_weigh 75 = .ok (.iconst 0, 1) := by decide +kernel
theorem dX0_weigh_76 : decode cX0_weigh 76 = .ok (.iconst 0, 1) := by decide +kernel
theorem dX0_weigh_77 : decode cX0_weigh 77 = .ok (.aload_n 0, 1) := by decide +kernel
theorem dX0_weigh_78 : decode cX0_weigh 78 = .ok (.getfield 11, 3) := by decide +kernel
theorem dX0_weigh_81 : decode cX0_weigh 81 = .ok (.iconst 0, 1) := by decide +kernel
theorem dX0_weigh_82 : decode cX0_weigh 82 = .ok (.aaload, 1) := by decide +kernel
theorem dX0_weigh_83 : decode cX0_weigh 83 = .ok (.iload_n 2, 1) := by decide +kernel
theorem dX0_weigh_84 : decode cX0_weigh 84 = .ok (.invokevirtual 65, 3) := by decide +kernel
theorem dX0_weigh_87 : decode cX0_weigh 87 = .ok (.iinc 2 1, 3) := by decide +kernel
theorem dX0_weigh_90 : decode cX0_weigh 90 = .ok (.goto (-32), 3) := by decide +kernel
theorem dX0_weigh_93 : decode cX0_weigh 93 = .ok (.return_, 1) := by decide +kernel
theorem dX0_weighEntry_0 : decode cX0_weighEntry 0 = .ok (.aload_n 0, 1) := by decide +kernel
theorem dX0_weighEntry_1 : decode cX0_weighEntry 1 = .ok (.getfield 41, 3) := by decide +kernel
theorem dX0_weighEntry_4 : decode cX0_weighEntry 4 = .ok (.iload_n 2, 1) := by decide +kernel
theorem dX0_weighEntry_5 : decode cX0_weighEntry 5 = .ok (.aaload, 1) := by decide +kernel
theorem dX0_weighEntry_6 : decode cX0_weighEntry 6 = .ok (.getfield 69, 3) := by decide +kernel
theorem dX0_weighEntry_9 : decode cX0_weighEntry 9 = .ok (.iload_n 3, 1) := by decide +kernel
theorem dX0_weighEntry_10 : decode cX0_weighEntry 10 = .ok (.iaload, 1) := by decide +kernel
theorem dX0_weighEntry_11 : decode cX0_weighEntry 11 = .ok (.istore 4, 2) := by decide +kernel
theorem dX0_weighEntry_13 : decode cX0_weighEntry 13 = .ok (.aload_n 0, 1) := by decide +kernel
theorem dX0_weighEntry_14 : decode cX0_weighEntry 14 = .ok (.getfield 42, 3) := by decide +kernel
theorem dX0_weighEntry_17 : decode cX0_weighEntry 17 = .ok (.iload_n 1, 1) := by decide +kernel
theorem dX0_weighEntry_18 : decode cX0_weighEntry 18 = .ok (.iload 4, 2) := by decide +kernel
theorem dX0_weighEntry_20 : decode cX0_weighEntry 20 = .ok (.iload_n 2, 1) := by decide +kernel
theorem dX0_weighEntry_21 : decode cX0_weighEntry 21 = .ok (.invokevirtual 72, 3) := by decide +kernel
theorem dX0_weighEntry_24 : decode cX0_weighEntry 24 = .ok (.istore 5, 2) := by decide +kernel
theorem dX0_weighEntry_26 : decode cX0_weighEntry 26 = .ok (.aload_n 0, 1) := by decide +kernel
theorem dX0_weighEntry_27 : decode cX0_weighEntry 27 = .ok (.getfield 11, 3) := by decide +kernel
theorem dX0_weighEntry_30 : decode cX0_weighEntry 30 = .ok (.iload_n 2, 1) := by decide +kernel
theorem dX0_weighEntry_31 : decode cX0_weighEntry 31 = .ok (.aaload, 1) := by decide +kernel
theorem dX0_weighEntry_32 : decode cX0_weighEntry 32 = .ok (.iload_n 3, 1) := by decide +kernel
theorem dX0_weighEntry_33 : decode cX0_weighEntry 33 = .ok (.invokevirtual 62, 3) := by decide +kernel
theorem dX0_weighEntry_36 : decode cX0_weighEntry 36 = .ok (.iload_n 2, 1) := by decide +kernel
theorem dX0_weighEntry_37 : decode cX0_weighEntry 37 = .ok (.iconst 1, 1) := by decide +kernel
theorem dX0_weighEntry_38 : decode cX0_weighEntry 38 = .ok (.iadd, 1) := by decide +kernel
theorem dX0_weighEntry_39 : decode cX0_weighEntry 39 = .ok (.aload_n 0, 1) := by decide +kernel
theorem dX0_weighEntry_40 : decode cX0_weighEntry 40 = .ok (.getfield 31, 3) := by decide +kernel
theorem dX0_weighEntry_43 : decode cX0_weighEntry 43 = .ok (.getfield 49, 3) := by decide +kernel
theorem dX0_weighEntry_46 : decode cX0_weighEntry 46 = .ok (.if_icmp .lt 21, 3) := by decide +kernel
theorem dX0_weighEntry_49 : decode cX0_weighEntry 49 = .ok (.aload_n 0, 1) := by decide +kernel
theorem dX0_weighEntry_50 : decode cX0_weighEntry 50 = .ok (.getfield 11, 3) := by decide +kernel
theorem dX0_weighEntry_53 : decode cX0_weighEntry 53 = .ok (.iload_n 2, 1) := by decide +kernel
theorem dX0_weighEntry_54 : decode cX0_weighEntry 54 = .ok (.aaload, 1) := by decide +kernel
theorem dX0_weighEntry_55 : decode cX0_weighEntry 55 = .ok (.iload_n 3, 1) := by decide +kernel
theorem dX0_weighEntry_56 : decode cX0_weighEntry 56 = .ok (.iload 5, 2) := by decide +kernel
theorem dX0_weighEntry_58 : decode cX0_weighEntry 58 = .ok (.aload_n 0, 1) := by decide +kernel
theorem dX0_weighEntry_59 : decode cX0_weighEntry 59 = .ok (.getfield 24, 3) := by decide +kernel
theorem dX0_weighEntry_62 : decode cX0_weighEntry 62 = .ok (.iconst 0, 1) := by decide +kernel
theorem dX0_weighEntry_63 : decode cX0_weighEntry 63 = .ok (.invokevirtual 65, 3) := by decide +kernel
theorem dX0_weighEntry_66 : decode cX0_weighEntry 66 = .ok (.return_, 1) := by decide +kernel
theorem dX0_weighEntry_67 : decode cX0_weighEntry 67 = .ok (.aload_n 0, 1) := by decide +kernel
theorem dX0_weighEntry_68 : decode cX0_weighEntry 68 = .ok (.getfield 41, 3) := by decide +kernel
theorem dX0_weighEntry_71 : decode cX0_weighEntry 71 = .ok (.iload_n 2, 1) := by decide +kernel
theorem dX0_weighEntry_72 : decode cX0_weighEntry 72 = .ok (.iconst 1, 1) := by decide +kernel
theorem dX0_weighEntry_73 : decode cX0_weighEntry 73 = .ok (.iadd, 1) := by decide +kernel
theorem dX0_weighEntry_74 : decode cX0_weighEntry 74 = .ok (.aaload, 1) := by decide +kernel
theorem dX0_weighEntry_75 : decode cX0_weighEntry 75 = .ok (.astore 6, 2) := by decide +kernel
theorem dX0_weighEntry_77 : decode cX0_weighEntry 77 = .ok (.iconst 0, 1) := by decide +kernel
theorem dX0_weighEntry_78 : decode cX0_weighEntry 78 = .ok (.istore 7, 2) := by decide +kernel
theorem dX0_weighEntry_80 : decode cX0_weighEntry 80 = .ok (.iload 7, 2) := by decide +kernel
theorem dX0_weighEntry_82 : decode cX0_weighEntry 82 = .ok (.aload 6, 2) := by decide +kernel
theorem dX0_weighEntry_84 : decode cX0_weighEntry 84 = .ok (.getfield 55, 3) := by decide +kernel
theorem dX0_weighEntry_87 : decode cX0_weighEntry 87 = .ok (.if_icmp .ge 53, 3) := by decide +kernel
theorem dX0_weighEntry_90 : decode cX0_weighEntry 90 = .ok (.aload_n 0, 1) := by decide +kernel
theorem dX0_weighEntry_91 : decode cX0_weighEntry 91 = .ok (.getfield 42, 3) := by decide +kernel
theorem dX0_weighEntry_94 : decode cX0_weighEntry 94 = .ok (.iload 4, 2) := by decide +kernel
theorem dX0_weighEntry_96 : decode cX0_weighEntry 96 = .ok (.aload 6, 2) := by decide +kernel
theorem dX0_weighEntry_98 : decode cX0_weighEntry 98 = .ok (.getfield 69, 3) := by decide +kernel
theorem dX0_weighEntry_101 : decode cX0_weighEntry 101 = .ok (.iload 7, 2) := by decide +kernel
theorem dX0_weighEntry_103 : decode cX0_weighEntry 103 = .ok (.iaload, 1) := by decide +kernel
theorem dX0_weighEntry_104 : decode cX0_weighEntry 104 = .ok (.invokevirtual 78, 3) := by decide +kernel
theorem dX0_weighEntry_107 : decode cX0_weighEntry 107 = .ok (.istore 8, 2) := by decide +kernel
theorem dX0_weighEntry_109 : decode cX0_weighEntry 109 = .ok (.aload_n 0, 1) := by decide +kernel
theorem dX0_weighEntry_110 : decode cX0_weighEntry 110 = .ok (.getfield 11, 3) := by decide +kernel
theorem dX0_weighEntry_113 : decode cX0_weighEntry 113 = .ok (.iload_n 2, 1) := by decide +kernel
theorem dX0_weighEntry_114 : decode cX0_weighEntry 114 = .ok (.aaload, 1) := by decide +kernel
theorem dX0_weighEntry_115 : decode cX0_weighEntry 115 = .ok (.iload_n 3, 1) := by decide +kernel
theorem dX0_weighEntry_116 : decode cX0_weighEntry 116 = .ok (.iload 5, 2) := by decide +kernel
theorem dX0_weighEntry_118 : decode cX0_weighEntry 118 = .ok (.iload 8, 2) := by decide +kernel
theorem dX0_weighEntry_120 : decode cX0_weighEntry 120 = .ok (.iadd, 1) := by decide +kernel
theorem dX0_weighEntry_121 : decode cX0_weighEntry 121 = .ok (.aload_n 0, 1) := by decide +kernel
theorem dX0_weighEntry_122 : decode cX0_weighEntry 122 = .ok (.getfield 11, 3) := by decide +kernel
theorem dX0_weighEntry_125 : decode cX0_weighEntry 125 = .ok (.iload_n 2, 1) := by decide +kernel
theorem dX0_weighEntry_126 : decode cX0_weighEntry 126 = .ok (.iconst 1, 1) := by decide +kernel
theorem dX0_weighEntry_127 : decode cX0_weighEntry 127 = .ok (.iadd, 1) := by decide +kernel
theorem dX0_weighEntry_128 : decode cX0_weighEntry 128 = .ok (.aaload, 1) := by decide +kernel
theorem dX0_weighEntry_129 : decode cX0_weighEntry 129 = .ok (.iload 7, 2) := by decide +kernel
theorem dX0_weighEntry_131 : decode cX0_weighEntry 131 = .ok (.invokevirtual 65, 3) := by decide +kernel
theorem dX0_weighEntry_134 : decode cX0_weighEntry 134 = .ok (.iinc 7 1, 3) := by decide +kernel
theorem dX0_weighEntry_137 : decode cX0_weighEntry 137 = .ok (.goto (-57), 3) := by decide +kernel
theorem dX0_weighEntry_140 : decode cX0_weighEntry 140 = .ok (.return_, 1) := by decide +kernel
theorem dX0_trace_0 : decode cX0_trace 0 = .ok (.aload_n 0, 1) := by decide +kernel
theorem dX0_trace_1 : decode cX0_trace 1 = .ok (.getfield 20, 3) := by decide +kernel
theorem dX0_trace_4 : decode cX0_trace 4 = .ok (.getfield 82, 3) := by decide +kernel
theorem dX0_trace_7 : decode cX0_trace 7 = .ok (.iconst 0, 1) := by decide +kernel
theorem dX0_trace_8 : decode cX0_trace 8 = .ok (.iaload, 1) := by decide +kernel
theorem dX0_trace_9 : decode cX0_trace 9 = .ok (.istore_n 1, 1) := by decide +kernel
theorem dX0_trace_10 : decode cX0_trace 10 = .ok (.iconst 0, 1) := by decide +kernel
theorem dX0_trace_11 : decode cX0_trace 11 = .ok (.istore_n 2, 1) := by decide +kernel
theorem dX0_trace_12 : decode cX0_trace 12 = .ok (.iload_n 2, 1) := by decide +kernel
theorem dX0_trace_13 : decode cX0_trace 13 = .ok (.aload_n 0, 1) := by decide +kernel
theorem dX0_trace_14 : decode cX0_trace 14 = .ok (.getfield 31, 3) := by decide +kernel
theorem dX0_trace_17 : decode cX0_trace 17 = .ok (.getfield 49, 3) := by decide +kernel
theorem dX0_trace_20 : decode cX0_trace 20 = .ok (.if_icmp .ge 51, 3) := by decide +kernel
theorem dX0_trace_23 : decode cX0_trace 23 = .ok (.iload_n 1, 1) := by decide +kernel
theorem dX0_trace_24 : decode cX0_trace 24 = .ok (.aload_n 0, 1) := by decide +kernel
theorem dX0_trace_25 : decode cX0_trace 25 = .ok (.getfield 41, 3) := by decide +kernel
theorem dX0_trace_28 : decode cX0_trace 28 = .ok (.iload_n 2, 1) := by decide +kernel
theorem dX0_trace_29 : decode cX0_trace 29 = .ok (.aaload, 1) := by decide +kernel
theorem dX0_trace_30 : decode cX0_trace 30 = .ok (.getfield 55, 3) := by decide +kernel
theorem dX0_trace_33 : decode cX0_trace 33 = .ok (.if_icmp .ge 38, 3) := by decide +kernel
theorem dX0_trace_36 : decode cX0_trace 36 = .ok (.aload_n 0, 1) := by decide +kernel
theorem dX0_trace_37 : decode cX0_trace 37 = .ok (.getfield 27, 3) := by decide +kernel
theorem dX0_trace_40 : decode cX0_trace 40 = .ok (.iload_n 2, 1) := by decide +kernel
theorem dX0_trace_41 : decode cX0_trace 41 = .ok (.aload_n 0, 1) := by decide +kernel
theorem dX0_trace_42 : decode cX0_trace 42 = .ok (.getfield 41, 3) := by decide +kernel
theorem dX0_trace_45 : decode cX0_trace 45 = .ok (.iload_n 2, 1) := by decide +kernel
theorem dX0_trace_46 : decode cX0_trace 46 = .ok (.aaload, 1) := by decide +kernel
theorem dX0_trace_47 : decode cX0_trace 47 = .ok (.getfield 69, 3) := by decide +kernel
theorem dX0_trace_50 : decode cX0_trace 50 = .ok (.iload_n 1, 1) := by decide +kernel
theorem dX0_trace_51 : decode cX0_trace 51 = .ok (.iaload, 1) := by decide +kernel
theorem dX0_trace_52 : decode cX0_trace 52 = .ok (.iastore, 1) := by decide +kernel
theorem dX0_trace_53 : decode cX0_trace 53 = .ok (.aload_n 0, 1) := by decide +kernel
theorem dX0_trace_54 : decode cX0_trace 54 = .ok (.getfield 11, 3) := by decide +kernel
theorem dX0_trace_57 : decode cX0_trace 57 = .ok (.iload_n 2, 1) := by decide +kernel
theorem dX0_trace_58 : decode cX0_trace 58 = .ok (.aaload, 1) := by decide +kernel
theorem dX0_trace_59 : decode cX0_trace 59 = .ok (.getfield 82, 3) := by decide +kernel
theorem dX0_trace_62 : decode cX0_trace 62 = .ok (.iload_n 1, 1) := by decide +kernel
theorem dX0_trace_63 : decode cX0_trace 63 = .ok (.iaload, 1) := by decide +kernel
theorem dX0_trace_64 : decode cX0_trace 64 = .ok (.istore_n 1, 1) := by decide +kernel
theorem dX0_trace_65 : decode cX0_trace 65 = .ok (.iinc 2 1, 3) := by decide +kernel
theorem dX0_trace_68 : decode cX0_trace 68 = .ok (.goto (-56), 3) := by decide +kernel
theorem dX0_trace_71 : decode cX0_trace 71 = .ok (.return_, 1) := by decide +kernel
theorem dX0_leastPrice_0 : decode cX0_leastPrice 0 = .ok (.aload_n 0, 1) := by decide +kernel
theorem dX0_leastPrice_1 : decode cX0_leastPrice 1 = .ok (.getfield 20, 3) := by decide +kernel
theorem dX0_leastPrice_4 : decode cX0_leastPrice 4 = .ok (.getfield 85, 3) := by decide +kernel
theorem dX0_leastPrice_7 : decode cX0_leastPrice 7 = .ok (.iconst 0, 1) := by decide +kernel
theorem dX0_leastPrice_8 : decode cX0_leastPrice 8 = .ok (.iaload, 1) := by decide +kernel
theorem dX0_leastPrice_9 : decode cX0_leastPrice 9 = .ok (.ireturn, 1) := by decide +kernel
theorem dX0_secondPrice_0 : decode cX0_secondPrice 0 = .ok (.aload_n 0, 1) := by decide +kernel
theorem dX0_secondPrice_1 : decode cX0_secondPrice 1 = .ok (.getfield 20, 3) := by decide +kernel
theorem dX0_secondPrice_4 : decode cX0_secondPrice 4 = .ok (.getfield 88, 3) := by decide +kernel
theorem dX0_secondPrice_7 : decode cX0_secondPrice 7 = .ok (.iconst 0, 1) := by decide +kernel
theorem dX0_secondPrice_8 : decode cX0_secondPrice 8 = .ok (.iaload, 1) := by decide +kernel
theorem dX0_secondPrice_9 : decode cX0_secondPrice 9 = .ok (.ldc 91, 2) := by decide +kernel
theorem dX0_secondPrice_11 : decode cX0_secondPrice 11 = .ok (.if_icmp .ge 15, 3) := by decide +kernel
theorem dX0_secondPrice_14 : decode cX0_secondPrice 14 = .ok (.aload_n 0, 1) := by decide +kernel
theorem dX0_secondPrice_15 : decode cX0_secondPrice 15 = .ok (.getfield 20, 3) := by decide +kernel
theorem dX0_secondPrice_18 : decode cX0_secondPrice 18 = .ok (.getfield 88, 3) := by decide +kernel
theorem dX0_secondPrice_21 : decode cX0_secondPrice 21 = .ok (.iconst 0, 1) := by decide +kernel
theorem dX0_secondPrice_22 : decode cX0_secondPrice 22 = .ok (.iaload, 1) := by decide +kernel
theorem dX0_secondPrice_23 : decode cX0_secondPrice 23 = .ok (.goto 4, 3) := by decide +kernel
theorem dX0_secondPrice_26 : decode cX0_secondPrice 26 = .ok (.iconst (-1), 1) := by decide +kernel
theorem dX0_secondPrice_27 : decode cX0_secondPrice 27 = .ok (.ireturn, 1) := by decide +kernel
theorem dX0_mostPrice_0 : decode cX0_mostPrice 0 = .ok (.aload_n 0, 1) := by decide +kernel
theorem dX0_mostPrice_1 : decode cX0_mostPrice 1 = .ok (.getfield 20, 3) := by decide +kernel
theorem dX0_mostPrice_4 : decode cX0_mostPrice 4 = .ok (.getfield 92, 3) := by decide +kernel
theorem dX0_mostPrice_7 : decode cX0_mostPrice 7 = .ok (.iconst 0, 1) := by decide +kernel
theorem dX0_mostPrice_8 : decode cX0_mostPrice 8 = .ok (.iaload, 1) := by decide +kernel
theorem dX0_mostPrice_9 : decode cX0_mostPrice 9 = .ok (.ireturn, 1) := by decide +kernel
theorem dX0_waysOfLeast_0 : decode cX0_waysOfLeast 0 = .ok (.aload_n 0, 1) := by decide +kernel
theorem dX0_waysOfLeast_1 : decode cX0_waysOfLeast 1 = .ok (.getfield 20, 3) := by decide +kernel
theorem dX0_waysOfLeast_4 : decode cX0_waysOfLeast 4 = .ok (.getfield 95, 3) := by decide +kernel
theorem dX0_waysOfLeast_7 : decode cX0_waysOfLeast 7 = .ok (.iconst 0, 1) := by decide +kernel
theorem dX0_waysOfLeast_8 : decode cX0_waysOfLeast 8 = .ok (.iaload, 1) := by decide +kernel
theorem dX0_waysOfLeast_9 : decode cX0_waysOfLeast 9 = .ok (.ireturn, 1) := by decide +kernel
theorem dX0_pathFollowers_0 : decode cX0_pathFollowers 0 = .ok (.iconst 0, 1) := by decide +kernel
theorem dX0_pathFollowers_1 : decode cX0_pathFollowers 1 = .ok (.istore_n 2, 1) := by decide +kernel
theorem dX0_pathFollowers_2 : decode cX0_pathFollowers 2 = .ok (.iconst 1, 1) := by decide +kernel
theorem dX0_pathFollowers_3 : decode cX0_pathFollowers 3 = .ok (.istore_n 3, 1) := by decide +kernel
theorem dX0_pathFollowers_4 : decode cX0_pathFollowers 4 = .ok (.iload_n 3, 1) := by decide +kernel
theorem dX0_pathFollowers_5 : decode cX0_pathFollowers 5 = .ok (.aload_n 0, 1) := by decide +kernel
theorem dX0_pathFollowers_6 : decode cX0_pathFollowers 6 = .ok (.getfield 31, 3) := by decide +kernel
theorem dX0_pathFollowers_9 : decode cX0_pathFollowers 9 = .ok (.getfield 49, 3) := by decide +kernel
theorem dX0_pathFollowers_12 : decode cX0_pathFollowers 12 = .ok (.if_icmp .ge 34, 3) := by decide +kernel
theorem dX0_pathFollowers_15 : decode cX0_pathFollowers 15 = .ok (.aload_n 1, 1) := by decide +kernel
theorem dX0_pathFollowers_16 : decode cX0_pathFollowers 16 = .ok (.getfield 98, 3) := by decide +kernel
theorem dX0_pathFollowers_19 : decode cX0_pathFollowers 19 = .ok (.aload_n 0, 1) := by decide +kernel
theorem dX0_pathFollowers_20 : decode cX0_pathFollowers 20 = .ok (.getfield 27, 3) := by decide +kernel
theorem dX0_pathFollowers_23 : decode cX0_pathFollowers 23 = .ok (.iload_n 3, 1) := by decide +kernel
theorem dX0_pathFollowers_24 : decode cX0_pathFollowers 24 = .ok (.iconst 1, 1) := by decide +kernel
theorem dX0_pathFollowers_25 : decode cX0_pathFollowers 25 = .ok (.isub, 1) := by decide +kernel
theorem dX0_pathFollowers_26 : decode cX0_pathFollowers 26 = .ok (.iaload, 1) := by decide +kernel
theorem dX0_pathFollowers_27 : decode cX0_pathFollowers 27 = .ok (.iaload, 1) := by decide +kernel
theorem dX0_pathFollowers_28 : decode cX0_pathFollowers 28 = .ok (.aload_n 0, 1) := by decide +kernel
theorem dX0_pathFollowers_29 : decode cX0_pathFollowers 29 = .ok (.getfield 27, 3) := by decide +kernel
theorem dX0_pathFollowers_32 : decode cX0_pathFollowers 32 = .ok (.iload_n 3, 1) := by decide +kernel
theorem dX0_pathFollowers_33 : decode cX0_pathFollowers 33 = .ok (.iaload, 1) := by decide +kernel
theorem dX0_pathFollowers_34 : decode cX0_pathFollowers 34 = .ok (.if_icmp .ne 6, 3) := by decide +kernel
theorem dX0_pathFollowers_37 : decode cX0_pathFollowers 37 = .ok (.iinc 2 1, 3) := by decide +kernel
theorem dX0_pathFollowers_40 : decode cX0_pathFollowers 40 = .ok (.iinc 3 1, 3) := by decide +kernel
theorem dX0_pathFollowers_43 : decode cX0_pathFollowers 43 = .ok (.goto (-39), 3) := by decide +kernel
theorem dX0_pathFollowers_46 : decode cX0_pathFollowers 46 = .ok (.iload_n 2, 1) := by decide +kernel
theorem dX0_pathFollowers_47 : decode cX0_pathFollowers 47 = .ok (.ireturn, 1) := by decide +kernel
theorem dX0_pathFits_0 : decode cX0_pathFits 0 = .ok (.iconst 0, 1) := by decide +kernel
theorem dX0_pathFits_1 : decode cX0_pathFits 1 = .ok (.istore_n 2, 1) := by decide +kernel
theorem dX0_pathFits_2 : decode cX0_pathFits 2 = .ok (.iconst 0, 1) := by decide +kernel
theorem dX0_pathFits_3 : decode cX0_pathFits 3 = .ok (.istore_n 3, 1) := by decide +kernel
theorem dX0_pathFits_4 : decode cX0_pathFits 4 = .ok (.iload_n 3, 1) := by decide +kernel
theorem dX0_pathFits_5 : decode cX0_pathFits 5 = .ok (.aload_n 0, 1) := by decide +kernel
theorem dX0_pathFits_6 : decode cX0_pathFits 6 = .ok (.getfield 31, 3) := by decide +kernel
theorem dX0_pathFits_9 : decode cX0_pathFits 9 = .ok (.getfield 49, 3) := by decide +kernel
theorem dX0_pathFits_12 : decode cX0_pathFits 12 = .ok (.if_icmp .ge 27, 3) := by decide +kernel
theorem dX0_pathFits_15 : decode cX0_pathFits 15 = .ok (.iload_n 2, 1) := by decide +kernel
theorem dX0_pathFits_16 : decode cX0_pathFits 16 = .ok (.aload_n 0, 1) := by decide +kernel
theorem dX0_pathFits_17 : decode cX0_pathFits 17 = .ok (.getfield 42, 3) := by decide +kernel
theorem dX0_pathFits_20 : decode cX0_pathFits 20 = .ok (.iload_n 1, 1) := by decide +kernel
theorem dX0_pathFits_21 : decode cX0_pathFits 21 = .ok (.aload_n 0, 1) := by decide +kernel
theorem dX0_pathFits_22 : decode cX0_pathFits 22 = .ok (.getfield 27, 3) := by decide +kernel
theorem dX0_pathFits_25 : decode cX0_pathFits 25 = .ok (.iload_n 3, 1) := by decide +kernel
theorem dX0_pathFits_26 : decode cX0_pathFits 26 = .ok (.iaload, 1) := by decide +kernel
theorem dX0_pathFits_27 : decode cX0_pathFits 27 = .ok (.iload_n 3, 1) := by decide +kernel
theorem dX0_pathFits_28 : decode cX0_pathFits 28 = .ok (.invokevirtual 72, 3) := by decide +kernel
theorem dX0_pathFits_31 : decode cX0_pathFits 31 = .ok (.iadd, 1) := by decide +kernel
theorem dX0_pathFits_32 : decode cX0_pathFits 32 = .ok (.istore_n 2, 1) := by decide +kernel
theorem dX0_pathFits_33 : decode cX0_pathFits 33 = .ok (.iinc 3 1, 3) := by decide +kernel
theorem dX0_pathFits_36 : decode cX0_pathFits 36 = .ok (.goto (-32), 3) := by decide +kernel
theorem dX0_pathFits_39 : decode cX0_pathFits 39 = .ok (.iload_n 2, 1) := by decide +kernel
theorem dX0_pathFits_40 : decode cX0_pathFits 40 = .ok (.ireturn, 1) := by decide +kernel
theorem dX0_pathJoints_0 : decode cX0_pathJoints 0 = .ok (.iconst 0, 1) := by decide +kernel
theorem dX0_pathJoints_1 : decode cX0_pathJoints 1 = .ok (.istore_n 1, 1) := by decide +kernel
theorem dX0_pathJoints_2 : decode cX0_pathJoints 2 = .ok (.iconst 1, 1) := by decide +kernel
theorem dX0_pathJoints_3 : decode cX0_pathJoints 3 = .ok (.istore_n 2, 1) := by decide +kernel
theorem dX0_pathJoints_4 : decode cX0_pathJoints 4 = .ok (.iload_n 2, 1) := by decide +kernel
theorem dX0_pathJoints_5 : decode cX0_pathJoints 5 = .ok (.aload_n 0, 1) := by decide +kernel
theorem dX0_pathJoints_6 : decode cX0_pathJoints 6 = .ok (.getfield 31, 3) := by decide +kernel
theorem dX0_pathJoints_9 : decode cX0_pathJoints 9 = .ok (.getfield 49, 3) := by decide +kernel
theorem dX0_pathJoints_12 : decode cX0_pathJoints 12 = .ok (.if_icmp .ge 33, 3) := by decide +kernel
theorem dX0_pathJoints_15 : decode cX0_pathJoints 15 = .ok (.iload_n 1, 1) := by decide +kernel
theorem dX0_pathJoints_16 : decode cX0_pathJoints 16 = .ok (.aload_n 0, 1) := by decide +kernel
theorem dX0_pathJoints_17 : decode cX0_pathJoints 17 = .ok (.getfield 42, 3) := by decide +kernel
theorem dX0_pathJoints_20 : decode cX0_pathJoints 20 = .ok (.aload_n 0, 1) := by decide +kernel
theorem dX0_pathJoints_21 : decode cX0_pathJoints 21 = .ok (.getfield 27, 3) := by decide +kernel
theorem dX0_pathJoints_24 : decode cX0_pathJoints 24 = .ok (.iload_n 2, 1) := by decide +kernel
theorem dX0_pathJoints_25 : decode cX0_pathJoints 25 = .ok (.iconst 1, 1) := by decide +kernel
theorem dX0_pathJoints_26 : decode cX0_pathJoints 26 = .ok (.isub, 1) := by decide +kernel
theorem dX0_pathJoints_27 : decode cX0_pathJoints 27 = .ok (.iaload, 1) := by decide +kernel
theorem dX0_pathJoints_28 : decode cX0_pathJoints 28 = .ok (.aload_n 0, 1) := by decide +kernel
theorem dX0_pathJoints_29 : decode cX0_pathJoints 29 = .ok (.getfield 27, 3) := by decide +kernel
theorem dX0_pathJoints_32 : decode cX0_pathJoints 32 = .ok (.iload_n 2, 1) := by decide +kernel
theorem dX0_pathJoints_33 : decode cX0_pathJoints 33 = .ok (.iaload, 1) := by decide +kernel
theorem dX0_pathJoints_34 : decode cX0_pathJoints 34 = .ok (.invokevirtual 78, 3) := by decide +kernel
theorem dX0_pathJoints_37 : decode cX0_pathJoints 37 = .ok (.iadd, 1) := by decide +kernel
theorem dX0_pathJoints_38 : decode cX0_pathJoints 38 = .ok (.istore_n 1, 1) := by decide +kernel
theorem dX0_pathJoints_39 : decode cX0_pathJoints 39 = .ok (.iinc 2 1, 3) := by decide +kernel
theorem dX0_pathJoints_42 : decode cX0_pathJoints 42 = .ok (.goto (-38), 3) := by decide +kernel
theorem dX0_pathJoints_45 : decode cX0_pathJoints 45 = .ok (.iload_n 1, 1) := by decide +kernel
theorem dX0_pathJoints_46 : decode cX0_pathJoints 46 = .ok (.ireturn, 1) := by decide +kernel
theorem dX0_dearestPathJoint_0 : decode cX0_dearestPathJoint 0 = .ok (.iconst 0, 1) := by decide +kernel
theorem dX0_dearestPathJoint_1 : decode cX0_dearestPathJoint 1 = .ok (.istore_n 1, 1) := by decide +kernel
theorem dX0_dearestPathJoint_2 : decode cX0_dearestPathJoint 2 = .ok (.iconst 1, 1) := by decide +kernel
theorem dX0_dearestPathJoint_3 : decode cX0_dearestPathJoint 3 = .ok (.istore_n 2, 1) := by decide +kernel
theorem dX0_dearestPathJoint_4 : decode cX0_dearestPathJoint 4 = .ok (.iload_n 2, 1) := by decide +kernel
theorem dX0_dearestPathJoint_5 : decode cX0_dearestPathJoint 5 = .ok (.aload_n 0, 1) := by decide +kernel
theorem dX0_dearestPathJoint_6 : decode cX0_dearestPathJoint 6 = .ok (.getfield 31, 3) := by decide +kernel
theorem dX0_dearestPathJoint_9 : decode cX0_dearestPathJoint 9 = .ok (.getfield 49, 3) := by decide +kernel
theorem dX0_dearestPathJoint_12 : decode cX0_dearestPathJoint 12 = .ok (.if_icmp .ge 35, 3) := by decide +kernel
theorem dX0_dearestPathJoint_15 : decode cX0_dearestPathJoint 15 = .ok (.iload_n 1, 1) := by decide +kernel
theorem dX0_dearestPathJoint_16 : decode cX0_dearestPathJoint 16 = .ok (.aload_n 0, 1) := by decide +kernel
theorem dX0_dearestPathJoint_17 : decode cX0_dearestPathJoint 17 = .ok (.getfield 42, 3) := by decide +kernel
theorem dX0_dearestPathJoint_20 : decode cX0_dearestPathJoint 20 = .ok (.aload_n 0, 1) := by decide +kernel
theorem dX0_dearestPathJoint_21 : decode cX0_dearestPathJoint 21 = .ok (.getfield 27, 3) := by decide +kernel
theorem dX0_dearestPathJoint_24 : decode cX0_dearestPathJoint 24 = .ok (.iload_n 2, 1) := by decide +kernel
theorem dX0_dearestPathJoint_25 : decode cX0_dearestPathJoint 25 = .ok (.iconst 1, 1) := by decide +kernel
theorem dX0_dearestPathJoint_26 : decode cX0_dearestPathJoint 26 = .ok (.isub, 1) := by decide +kernel
theorem dX0_dearestPathJoint_27 : decode cX0_dearestPathJoint 27 = .ok (.iaload, 1) := by decide +kernel
theorem dX0_dearestPathJoint_28 : decode cX0_dearestPathJoint 28 = .ok (.aload_n 0, 1) := by decide +kernel
theorem dX0_dearestPathJoint_29 : decode cX0_dearestPathJoint 29 = .ok (.getfield 27, 3) := by decide +kernel
theorem dX0_dearestPathJoint_32 : decode cX0_dearestPathJoint 32 = .ok (.iload_n 2, 1) := by decide +kernel
theorem dX0_dearestPathJoint_33 : decode cX0_dearestPathJoint 33 = .ok (.iaload, 1) := by decide +kernel
theorem dX0_dearestPathJoint_34 : decode cX0_dearestPathJoint 34 = .ok (.invokevirtual 78, 3) := by decide +kernel
theorem dX0_dearestPathJoint_37 : decode cX0_dearestPathJoint 37 = .ok (.invokestatic 103, 3) := by decide +kernel
theorem dX0_dearestPathJoint_40 : decode cX0_dearestPathJoint 40 = .ok (.istore_n 1, 1) := by decide +kernel
theorem dX0_dearestPathJoint_41 : decode cX0_dearestPathJoint 41 = .ok (.iinc 2 1, 3) := by decide +kernel
theorem dX0_dearestPathJoint_44 : decode cX0_dearestPathJoint 44 = .ok (.goto (-40), 3) := by decide +kernel
theorem dX0_dearestPathJoint_47 : decode cX0_dearestPathJoint 47 = .ok (.iload_n 1, 1) := by decide +kernel
theorem dX0_dearestPathJoint_48 : decode cX0_dearestPathJoint 48 = .ok (.ireturn, 1) := by decide +kernel
theorem dX1_init_0 : decode cX1_init 0 = .ok (.aload_n 0, 1) := by decide +kernel
theorem dX1_init_1 : decode cX1_init 1 = .ok (.invokespecial 3, 3) := by decide +kernel
theorem dX1_init_4 : decode cX1_init 4 = .ok (.aload_n 0, 1) := by decide +kernel
theorem dX1_init_5 : decode cX1_init 5 = .ok (.bipush 40, 2) := by decide +kernel
theorem dX1_init_7 : decode cX1_init 7 = .ok (.newarray .int, 2) := by decide +kernel
theorem dX1_init_9 : decode cX1_init 9 = .ok (.putfield 9, 3) := by decide +kernel
theorem dX1_init_12 : decode cX1_init 12 = .ok (.return_, 1) := by decide +kernel
theorem dX1_begin_0 : decode cX1_begin 0 = .ok (.aload_n 0, 1) := by decide +kernel
theorem dX1_begin_1 : decode cX1_begin 1 = .ok (.iconst 0, 1) := by decide +kernel
theorem dX1_begin_2 : decode cX1_begin 2 = .ok (.putfield 15, 3) := by decide +kernel
theorem dX1_begin_5 : decode cX1_begin 5 = .ok (.aload_n 0, 1) := by decide +kernel
theorem dX1_begin_6 : decode cX1_begin 6 = .ok (.iconst 0, 1) := by decide +kernel
theorem dX1_begin_7 : decode cX1_begin 7 = .ok (.putfield 19, 3) := by decide +kernel
theorem dX1_begin_10 : decode cX1_begin 10 = .ok (.aload_n 0, 1) := by decide +kernel
theorem dX1_begin_11 : decode cX1_begin 11 = .ok (.iconst 0, 1) := by decide +kernel
theorem dX1_begin_12 : decode cX1_begin 12 = .ok (.putfield 22, 3) := by decide +kernel
theorem dX1_begin_15 : decode cX1_begin 15 = .ok (.return_, 1) := by decide +kernel
theorem dX1_add_0 : decode cX1_add 0 = .ok (.aload_n 0, 1) := by decide +kernel
theorem dX1_add_1 : decode cX1_add 1 = .ok (.getfield 15, 3) := by decide +kernel
theorem dX1_add_4 : decode cX1_add 4 = .ok (.ifCond .lt 32, 3) := by decide +kernel
theorem dX1_add_7 : decode cX1_add 7 = .ok (.aload_n 0, 1) := by decide +kernel
theorem dX1_add_8 : decode cX1_add 8 = .ok (.getfield 15, 3) := by decide +kernel
theorem dX1_add_11 : decode cX1_add 11 = .ok (.bipush 40, 2) := by decide +kernel
theorem dX1_add_13 : decode cX1_add 13 = .ok (.if_icmp .ge 23, 3) := by decide +kernel
theorem dX1_add_16 : decode cX1_add 16 = .ok (.aload_n 0, 1) := by decide +kernel
theorem dX1_add_17 : decode cX1_add 17 = .ok (.getfield 9, 3) := by decide +kernel
theorem dX1_add_20 : decode cX1_add 20 = .ok (.aload_n 0, 1) := by decide +kernel
theorem dX1_add_21 : decode cX1_add 21 = .ok (.getfield 15, 3) := by decide +kernel
theorem dX1_add_24 : decode cX1_add 24 = .ok (.iload_n 1, 1) := by decide +kernel
theorem dX1_add_25 : decode cX1_add 25 = .ok (.iastore, 1) := by decide +kernel
theorem dX1_add_26 : decode cX1_add 26 = .ok (.aload_n 0, 1) := by decide +kernel
theorem dX1_add_27 : decode cX1_add 27 = .ok (.dup, 1) := by decide +kernel
theorem dX1_add_28 : decode cX1_add 28 = .ok (.getfield 15, 3) := by decide +kernel
theorem dX1_add_31 : decode cX1_add 31 = .ok (.iconst 1, 1) := by decide +kernel
theorem dX1_add_32 : decode cX1_add 32 = .ok (.iadd, 1) := by decide +kernel
theorem dX1_add_33 : decode cX1_add 33 = .ok (.putfield 15, 3) := by decide +kernel
theorem dX1_add_36 : decode cX1_add 36 = .ok (.return_, 1) := by decide +kernel
theorem dX1_miss_0 : decode cX1_miss 0 = .ok (.aload_n 0, 1) := by decide +kernel
theorem dX1_miss_1 : decode cX1_miss 1 = .ok (.iconst 0, 1) := by decide +kernel
theorem dX1_miss_2 : decode cX1_miss 2 = .ok (.putfield 15, 3) := by decide +kernel
theorem dX1_miss_5 : decode cX1_miss 5 = .ok (.aload_n 0, 1) := by decide +kernel
theorem dX1_miss_6 : decode cX1_miss 6 = .ok (.iconst (-1), 1) := by decide +kernel
theorem dX1_miss_7 : decode cX1_miss 7 = .ok (.putfield 19, 3) := by decide +kernel
theorem dX1_miss_10 : decode cX1_miss 10 = .ok (.return_, 1) := by decide +kernel
theorem dX1_isMissing_0 : decode cX1_isMissing 0 = .ok (.aload_n 0, 1) := by decide +kernel
theorem dX1_isMissing_1 : decode cX1_isMissing 1 = .ok (.getfield 19, 3) := by decide +kernel
theorem dX1_isMissing_4 : decode cX1_isMissing 4 = .ok (.iconst (-1), 1) := by decide +kernel
theorem dX1_isMissing_5 : decode cX1_isMissing 5 = .ok (.if_icmp .ne 7, 3) := by decide +kernel
theorem dX1_isMissing_8 : decode cX1_isMissing 8 = .ok (.iconst 1, 1) := by decide +kernel
theorem dX1_isMissing_9 : decode cX1_isMissing 9 = .ok (.goto 4, 3) := by decide +kernel
theorem dX1_isMissing_12 : decode cX1_isMissing 12 = .ok (.iconst 0, 1) := by decide +kernel
theorem dX1_isMissing_13 : decode cX1_isMissing 13 = .ok (.ireturn, 1) := by decide +kernel
theorem dX2_init_0 : decode cX2_init 0 = .ok (.aload_n 0, 1) := by decide +kernel
theorem dX2_init_1 : decode cX2_init 1 = .ok (.invokespecial 3, 3) := by decide +kernel
theorem dX2_init_4 : decode cX2_init 4 = .ok (.aload_n 0, 1) := by decide +kernel
theorem dX2_init_5 : decode cX2_init 5 = .ok (.bipush 40, 2) := by decide +kernel
theorem dX2_init_7 : decode cX2_init 7 = .ok (.newarray .int, 2) := by decide +kernel
theorem dX2_init_9 : decode cX2_init 9 = .ok (.putfield 9, 3) := by decide +kernel
theorem dX2_init_12 : decode cX2_init 12 = .ok (.aload_n 0, 1) := by decide +kernel
theorem dX2_init_13 : decode cX2_init 13 = .ok (.bipush 8, 2) := by decide +kernel
theorem dX2_init_15 : decode cX2_init 15 = .ok (.anewarray 15, 3) := by decide +kernel
theorem dX2_init_18 : decode cX2_init 18 = .ok (.putfield 17, 3) := by decide +kernel
theorem dX2_init_21 : decode cX2_init 21 = .ok (.aload_n 0, 1) := by decide +kernel
theorem dX2_init_22 : decode cX2_init 22 = .ok (.aload_n 1, 1) := by decide +kernel
theorem dX2_init_23 : decode cX2_init 23 = .ok (.putfield 21, 3) := by decide +kernel
theorem dX2_init_26 : decode cX2_init 26 = .ok (.aload_n 0, 1) := by decide +kernel
theorem dX2_init_27 : decode cX2_init 27 = .ok (.aload_n 2, 1) := by decide +kernel
theorem dX2_init_28 : decode cX2_init 28 = .ok (.putfield 25, 3) := by decide +kernel
theorem dX2_init_31 : decode cX2_init 31 = .ok (.aload_n 0, 1) := by decide +kernel
theorem dX2_init_32 : decode cX2_init 32 = .ok (.aload_n 3, 1) := by decide +kernel
theorem dX2_init_33 : decode cX2_init 33 = .ok (.putfield 29, 3) := by decide +kernel
theorem dX2_init_36 : decode cX2_init 36 = .ok (.aload_n 0, 1) := by decide +kernel
theorem dX2_init_37 : decode cX2_init 37 = .ok (.aload 4, 2) := by decide +kernel
theorem dX2_init_39 : decode cX2_init 39 = .ok (.putfield 33, 3) := by decide +kernel
theorem dX2_init_42 : decode cX2_init 42 = .ok (.iconst 0, 1) := by decide +kernel
theorem dX2_init_43 : decode cX2_init 43 = .ok (.istore 5, 2) := by decide +kernel
theorem dX2_init_45 : decode cX2_init 45 = .ok (.iload 5, 2) := by decide +kernel
theorem dX2_init_47 : decode cX2_init 47 = .ok (.bipush 8, 2) := by decide +kernel
theorem dX2_init_49 : decode cX2_init 49 = .ok (.if_icmp .ge 23, 3) := by decide +kernel
theorem dX2_init_52 : decode cX2_init 52 = .ok (.aload_n 0, 1) := by decide +kernel
theorem dX2_init_53 : decode cX2_init 53 = .ok (.getfield 17, 3) := by decide +kernel
theorem dX2_init_56 : decode cX2_init 56 = .ok (.iload 5, 2) := by decide +kernel
theorem dX2_init_58 : decode cX2_init 58 = .ok (.new 15, 3) := by decide +kernel
theorem dX2_init_61 : decode cX2_init 61 = .ok (.dup, 1) := by decide +kernel
theorem dX2_init_62 : decode cX2_init 62 = .ok (.invokespecial 36, 3) := by decide +kernel
theorem dX2_init_65 : decode cX2_init 65 = .ok (.aastore, 1) := by decide +kernel
theorem dX2_init_66 : decode cX2_init 66 = .ok (.iinc 5 1, 3) := by decide +kernel
theorem dX2_init_69 : decode cX2_init 69 = .ok (.goto (-24), 3) := by decide +kernel
theorem dX2_init_72 : decode cX2_init 72 = .ok (.return_, 1) := by decide +kernel
theorem dX2_leafOfUnit_0 : decode cX2_leafOfUnit 0 = .ok (.aload_n 0, 1) := by decide +kernel
theorem dX2_leafOfUnit_1 : decode cX2_leafOfUnit 1 = .ok (.getfield 29, 3) := by decide +kernel
theorem dX2_leafOfUnit_4 : decode cX2_leafOfUnit 4 = .ok (.aload_n 0, 1) := by decide +kernel
theorem dX2_leafOfUnit_5 : decode cX2_leafOfUnit 5 = .ok (.getfield 21, 3) := by decide +kernel
theorem dX2_leafOfUnit_8 : decode cX2_leafOfUnit 8 = .ok (.getfield 37, 3) := by decide +kernel
theorem dX2_leafOfUnit_11 : decode cX2_leafOfUnit 11 = .ok (.iload_n 1, 1) := by decide +kernel
theorem dX2_leafOfUnit_12 : decode cX2_leafOfUnit 12 = .ok (.iaload, 1) := by decide +kernel
theorem dX2_leafOfUnit_13 : decode cX2_leafOfUnit 13 = .ok (.aload_n 0, 1) := by decide +kernel
theorem dX2_leafOfUnit_14 : decode cX2_leafOfUnit 14 = .ok (.getfield 21, 3) := by decide +kernel
theorem dX2_leafOfUnit_17 : decode cX2_leafOfUnit 17 = .ok (.getfield 42, 3) := by decide +kernel
theorem dX2_leafOfUnit_20 : decode cX2_leafOfUnit 20 = .ok (.iload_n 1, 1) := by decide +kernel
theorem dX2_leafOfUnit_21 : decode cX2_leafOfUnit 21 = .ok (.iaload, 1) := by decide +kernel
theorem dX2_leafOfUnit_22 : decode cX2_leafOfUnit 22 = .ok (.aload_n 0, 1) := by decide +kernel
theorem dX2_leafOfUnit_23 : decode cX2_leafOfUnit 23 = .ok (.getfield 21, 3) := by decide +kernel
theorem dX2_leafOfUnit_26 : decode cX2_leafOfUnit 26 = .ok (.getfield 45, 3) := by decide +kernel
theorem dX2_leafOfUnit_29 : decode cX2_leafOfUnit 29 = .ok (.iload_n 1, 1) := by decide +kernel
theorem dX2_leafOfUnit_30 : decode cX2_leafOfUnit 30 = .ok (.iaload, 1) := by decide +kernel
theorem dX2_leafOfUnit_31 : decode cX2_leafOfUnit 31 = .ok (.aload_n 0, 1) := by decide +kernel
theorem dX2_leafOfUnit_32 : decode cX2_leafOfUnit 32 = .ok (.getfield 21, 3) := by decide +kernel
theorem dX2_leafOfUnit_35 : decode cX2_leafOfUnit 35 = .ok (.getfield 48, 3) := by decide +kernel
theorem dX2_leafOfUnit_38 : decode cX2_leafOfUnit 38 = .ok (.iload_n 1, 1) := by decide +kernel
theorem dX2_leafOfUnit_39 : decode cX2_leafOfUnit 39 = .ok (.iaload, 1) := by decide +kernel
theorem dX2_leafOfUnit_40 : decode cX2_leafOfUnit 40 = .ok (.invokevirtual 51, 3) := by decide +kernel
theorem dX2_leafOfUnit_43 : decode cX2_leafOfUnit 43 = .ok (.ireturn, 1) := by decide +kernel
theorem dX2_leafOfTarget_0 : decode cX2_leafOfTarget 0 = .ok (.aload_n 0, 1) := by decide +kernel
theorem dX2_leafOfTarget_1 : decode cX2_leafOfTarget 1 = .ok (.getfield 29, 3) := by decide +kernel
theorem dX2_leafOfTarget_4 : decode cX2_leafOfTarget 4 = .ok (.aload_n 0, 1) := by decide +kernel
theorem dX2_leafOfTarget_5 : decode cX2_leafOfTarget 5 = .ok (.getfield 25, 3) := by decide +kernel
theorem dX2_leafOfTarget_8 : decode cX2_leafOfTarget 8 = .ok (.iload_n 1, 1) := by decide +kernel
theorem dX2_leafOfTarget_9 : decode cX2_leafOfTarget 9 = .ok (.invokevirtual 57, 3) := by decide +kernel
theorem dX2_leafOfTarget_12 : decode cX2_leafOfTarget 12 = .ok (.aload_n 0, 1) := by decide +kernel
theorem dX2_leafOfTarget_13 : decode cX2_leafOfTarget 13 = .ok (.getfield 25, 3) := by decide +kernel
theorem dX2_leafOfTarget_16 : decode cX2_leafOfTarget 16 = .ok (.iload_n 1, 1) := by decide +kernel
theorem dX2_leafOfTarget_17 : decode cX2_leafOfTarget 17 = .ok (.invokevirtual 63, 3) := by decide +kernel
theorem dX2_leafOfTarget_20 : decode cX2_leafOfTarget 20 = .ok (.aload_n 0, 1) := by decide +kernel
theorem dX2_leafOfTarget_21 : decode cX2_leafOfTarget 21 = .ok (.getfield 25, 3) := by decide +kernel
theorem dX2_leafOfTarget_24 : decode cX2_leafOfTarget 24 = .ok (.getfield 66, 3) := by decide +kernel
theorem dX2_leafOfTarget_27 : decode cX2_leafOfTarget 27 = .ok (.iload_n 1, 1) := by decide +kernel
theorem dX2_leafOfTarget_28 : decode cX2_leafOfTarget 28 = .ok (.iaload, 1) := by decide +kernel
theorem dX2_leafOfTarget_29 : decode cX2_leafOfTarget 29 = .ok (.aload_n 0, 1) := by decide +kernel
theorem dX2_leafOfTarget_30 : decode cX2_leafOfTarget 30 = .ok (.getfield 25, 3) := by decide +kernel
theorem dX2_leafOfTarget_33 : decode cX2_leafOfTarget 33 = .ok (.getfield 67, 3) := by decide +kernel
theorem dX2_leafOfTarget_36 : decode cX2_leafOfTarget 36 = .ok (.iload_n 1, 1) := by decide +kernel
theorem dX2_leafOfTarget_37 : decode cX2_leafOfTarget 37 = .ok (.iaload, 1) := by decide +kernel
theorem dX2_leafOfTarget_38 : decode cX2_leafOfTarget 38 = .ok (.invokevirtual 51, 3) := by decide +kernel
theorem dX2_leafOfTarget_41 : decode cX2_leafOfTarget 41 = .ok (.ireturn, 1) := by decide +kernel
theorem dX2_chooseAll_0 : decode cX2_chooseAll 0 = .ok (.aload_n 0, 1) := by decide +kernel
theorem dX2_chooseAll_1 : decode cX2_chooseAll 1 = .ok (.invokevirtual 68, 3) := by decide +kernel
theorem dX2_chooseAll_4 : decode cX2_chooseAll 4 = .ok (.iconst 0, 1) := by decide +kernel
theorem dX2_chooseAll_5 : decode cX2_chooseAll 5 = .ok (.istore_n 2, 1) := by decide +kernel
theorem dX2_chooseAll_6 : decode cX2_chooseAll 6 = .ok (.iload_n 2, 1) := by decide +kernel
theorem dX2_chooseAll_7 : decode cX2_chooseAll 7 = .ok (.aload_n 0, 1) := by decide +kernel
theorem dX2_chooseAll_8 : decode cX2_chooseAll 8 = .ok (.getfield 25, 3) := by decide +kernel
theorem dX2_chooseAll_11 : decode cX2_chooseAll 11 = .ok (.getfield 71, 3) := by decide +kernel
theorem dX2_chooseAll_14 : decode cX2_chooseAll 14 = .ok (.if_icmp .ge 29, 3) := by decide +kernel
theorem dX2_chooseAll_17 : decode cX2_chooseAll 17 = .ok (.aload_n 0, 1) := by decide +kernel
theorem dX2_chooseAll_18 : decode cX2_chooseAll 18 = .ok (.iload_n 2, 1) := by decide +kernel
theorem dX2_chooseAll_19 : decode cX2_chooseAll 19 = .ok (.iload_n 1, 1) := by decide +kernel
theorem dX2_chooseAll_20 : decode cX2_chooseAll 20 = .ok (.invokevirtual 75, 3) := by decide +kernel
theorem dX2_chooseAll_23 : decode cX2_chooseAll 23 = .ok (.aload_n 0, 1) := by decide +kernel
theorem dX2_chooseAll_24 : decode cX2_chooseAll 24 = .ok (.getfield 17, 3) := by decide +kernel
theorem dX2_chooseAll_27 : decode cX2_chooseAll 27 = .ok (.iload_n 2, 1) := by decide +kernel
theorem dX2_chooseAll_28 : decode cX2_chooseAll 28 = .ok (.aaload, 1) := by decide +kernel
theorem dX2_chooseAll_29 : decode cX2_chooseAll 29 = .ok (.invokevirtual 79, 3) := by decide +kernel
theorem dX2_chooseAll_32 : decode cX2_chooseAll 32 = .ok (.ifCond .eq 5, 3) := by decide +kernel
theorem dX2_chooseAll_35 : decode cX2_chooseAll 35 = .ok (.iconst 0, 1) := by decide +kernel
theorem dX2_chooseAll_36 : decode cX2_chooseAll 36 = .ok (.ireturn, 1) := by decide +kernel
theorem dX2_chooseAll_37 : decode cX2_chooseAll 37 = .ok (.iinc 2 1, 3) := by decide +kernel
theorem dX2_chooseAll_40 : decode cX2_chooseAll 40 = .ok (.goto (-34), 3) := by decide +kernel
theorem dX2_chooseAll_43 : decode cX2_chooseAll 43 = .ok (.aload_n 0, 1) := by decide +kernel
theorem dX2_chooseAll_44 : decode cX2_chooseAll 44 = .ok (.getfield 25, 3) := by decide +kernel
theorem dX2_chooseAll_47 : decode cX2_chooseAll 47 = .ok (.getfield 71, 3) := by decide +kernel
theorem dX2_chooseAll_50 : decode cX2_chooseAll 50 = .ok (.ifCond .le 7, 3) := by decide +kernel
theorem dX2_chooseAll_53 : decode cX2_chooseAll 53 = .ok (.iconst 1, 1) := by decide +kernel
theorem dX2_chooseAll_54 : decode cX2_chooseAll 54 = .ok (.goto 4, 3) := by decide +kernel
theorem dX2_chooseAll_57 : decode cX2_chooseAll 57 = .ok (.iconst 0, 1) := by decide +kernel
theorem dX2_chooseAll_58 : decode cX2_chooseAll 58 = .ok (.ireturn, 1) := by decide +kernel
theorem dX2_choose_0 : decode cX2_choose 0 = .ok (.aload_n 0, 1) := by decide +kernel
theorem dX2_choose_1 : decode cX2_choose 1 = .ok (.invokevirtual 68, 3) := by decide +kernel
theorem dX2_choose_4 : decode cX2_choose 4 = .ok (.aload_n 0, 1) := by decide +kernel
theorem dX2_choose_5 : decode cX2_choose 5 = .ok (.iload_n 1, 1) := by decide +kernel
theorem dX2_choose_6 : decode cX2_choose 6 = .ok (.iload_n 2, 1) := by decide +kernel
theorem dX2_choose_7 : decode cX2_choose 7 = .ok (.invokevirtual 75, 3) := by decide +kernel
theorem dX2_choose_10 : decode cX2_choose 10 = .ok (.aload_n 0, 1) := by decide +kernel
theorem dX2_choose_11 : decode cX2_choose 11 = .ok (.getfield 17, 3) := by decide +kernel
theorem dX2_choose_14 : decode cX2_choose 14 = .ok (.iload_n 1, 1) := by decide +kernel
theorem dX2_choose_15 : decode cX2_choose 15 = .ok (.aaload, 1) := by decide +kernel
theorem dX2_choose_16 : decode cX2_choose 16 = .ok (.areturn, 1) := by decide +kernel
theorem dX2_findLeaves_0 : decode cX2_findLeaves 0 = .ok (.iconst 0, 1) := by decide +kernel
theorem dX2_findLeaves_1 : decode cX2_findLeaves 1 = .ok (.istore_n 1, 1) := by decide +kernel
theorem dX2_findLeaves_2 : decode cX2_findLeaves 2 = .ok (.iload_n 1, 1) := by decide +kernel
theorem dX2_findLeaves_3 : decode cX2_findLeaves 3 = .ok (.aload_n 0, 1) := by decide +kernel
theorem dX2_findLeaves_4 : decode cX2_findLeaves 4 = .ok (.getfield 21, 3) := by decide +kernel
theorem dX2_findLeaves_7 : decode cX2_findLeaves 7 = .ok (.getfield 83, 3) := by decide +kernel
theorem dX2_findLeaves_10 : decode cX2_findLeaves 10 = .ok (.if_icmp .ge 20, 3) := by decide +kernel
theorem dX2_findLeaves_13 : decode cX2_findLeaves 13 = .ok (.aload_n 0, 1) := by decide +kernel
theorem dX2_findLeaves_14 : decode cX2_findLeaves 14 = .ok (.getfield 9, 3) := by decide +kernel
theorem dX2_findLeaves_17 : decode cX2_findLeaves 17 = .ok (.iload_n 1, 1) := by decide +kernel
theorem dX2_findLeaves_18 : decode cX2_findLeaves 18 = .ok (.aload_n 0, 1) := by decide +kernel
theorem dX2_findLeaves_19 : decode cX2_findLeaves 19 = .ok (.iload_n 1, 1) := by decide +kernel
theorem dX2_findLeaves_20 : decode cX2_findLeaves 20 = .ok (.invokevirtual 84, 3) := by decide +kernel
theorem dX2_findLeaves_23 : decode cX2_findLeaves 23 = .ok (.iastore, 1) := by decide +kernel
theorem dX2_findLeaves_24 : decode cX2_findLeaves 24 = .ok (.iinc 1 1, 3) := by decide +kernel
theorem dX2_findLeaves_27 : decode cX2_findLeaves 27 = .ok (.goto (-25), 3) := by decide +kernel
theorem dX2_findLeaves_30 : decode cX2_findLeaves 30 = .ok (.return_, 1) := by decide +kernel
theorem dX2_chooseFor_0 : decode cX2_chooseFor 0 = .ok (.aload_n 0, 1) := by decide +kernel
theorem dX2_chooseFor_1 : decode cX2_chooseFor 1 = .ok (.getfield 17, 3) := by decide +kernel
theorem dX2_chooseFor_4 : decode cX2_chooseFor 4 = .ok (.iload_n 1, 1) := by decide +kernel
theorem dX2_chooseFor_5 : decode cX2_chooseFor 5 = .ok (.aaload, 1) := by decide +kernel
theorem dX2_chooseFor_6 : decode cX2_chooseFor 6 = .ok (.astore_n 3, 1) := by decide +kernel
theorem dX2_chooseFor_7 : decode cX2_chooseFor 7 = .ok (.aload_n 3, 1) := by decide +kernel
theorem dX2_chooseFor_8 : decode cX2_chooseFor 8 = .ok (.invokevirtual 87, 3) := by decide +kernel
theorem dX2_chooseFor_11 : decode cX2_chooseFor 11 = .ok (.aload_n 0, 1) := by decide +kernel
theorem dX2_chooseFor_12 : decode cX2_chooseFor 12 = .ok (.iload_n 1, 1) := by decide +kernel
theorem dX2_chooseFor_13 : decode cX2_chooseFor 13 = .ok (.invokevirtual 90, 3) := by decide +kernel
theorem dX2_chooseFor_16 : decode cX2_chooseFor 16 = .ok (.istore 4, 2) := by decide +kernel
theorem dX2_chooseFor_18 : decode cX2_chooseFor 18 = .ok (.aload_n 0, 1) := by decide +kernel
theorem dX2_chooseFor_19 : decode cX2_chooseFor 19 = .ok (.getfield 25, 3) := by decide +kernel
theorem dX2_chooseFor_22 : decode cX2_chooseFor 22 = .ok (.getfield 93, 3) := by decide +kernel
theorem dX2_chooseFor_25 : decode cX2_chooseFor 25 = .ok (.iload_n 1, 1) := by decide +kernel
theorem dX2_chooseFor_26 : decode cX2_chooseFor 26 = .ok (.iaload, 1) := by decide +kernel
theorem dX2_chooseFor_27 : decode cX2_chooseFor 27 = .ok (.istore 5, 2) := by decide +kernel
theorem dX2_chooseFor_29 : decode cX2_chooseFor 29 = .ok (.iconst 0, 1) := by decide +kernel
theorem dX2_chooseFor_30 : decode cX2_chooseFor 30 = .ok (.istore 6, 2) := by decide +kernel
theorem dX2_chooseFor_32 : decode cX2_chooseFor 32 = .ok (.iconst 0, 1) := by decide +kernel
theorem dX2_chooseFor_33 : decode cX2_chooseFor 33 = .ok (.istore 7, 2) := by decide +kernel
theorem dX2_chooseFor_35 : decode cX2_chooseFor 35 = .ok (.iload 7, 2) := by decide +kernel
theorem dX2_chooseFor_37 : decode cX2_chooseFor 37 = .ok (.bipush 6, 2) := by decide +kernel
theorem dX2_chooseFor_39 : decode cX2_chooseFor 39 = .ok (.if_icmp .ge 80, 3) := by decide +kernel
theorem dX2_chooseFor_42 : decode cX2_chooseFor 42 = .ok (.iload 6, 2) := by decide +kernel
theorem dX2_chooseFor_44 : decode cX2_chooseFor 44 = .ok (.iconst 1, 1) := by decide +kernel
theorem dX2_chooseFor_45 : decode cX2_chooseFor 45 = .ok (.iload 5, 2) := by decide +kernel
theorem dX2_chooseFor_47 : decode cX2_chooseFor 47 = .ok (.ishl, 1) := by decide +kernel
theorem dX2_chooseFor_48 : decode cX2_chooseFor 48 = .ok (.iand, 1) := by decide +kernel
theorem dX2_chooseFor_49 : decode cX2_chooseFor 49 = .ok (.ifCond .ne 70, 3) := by decide +kernel
theorem dX2_chooseFor_52 : decode cX2_chooseFor 52 = .ok (.iload 6, 2) := by decide +kernel
theorem dX2_chooseFor_54 : decode cX2_chooseFor 54 = .ok (.iconst 1, 1) := by decide +kernel
theorem dX2_chooseFor_55 : decode cX2_chooseFor 55 = .ok (.iload 5, 2) := by decide +kernel
theorem dX2_chooseFor_57 : decode cX2_chooseFor 57 = .ok (.ishl, 1) := by decide +kernel
theorem dX2_chooseFor_58 : decode cX2_chooseFor 58 = .ok (.ior, 1) := by decide +kernel
theorem dX2_chooseFor_59 : decode cX2_chooseFor 59 = .ok (.istore 6, 2) := by decide +kernel
theorem dX2_chooseFor_61 : decode cX2_chooseFor 61 = .ok (.aload_n 3, 1) := by decide +kernel
theorem dX2_chooseFor_62 : decode cX2_chooseFor 62 = .ok (.dup, 1) := by decide +kernel
theorem dX2_chooseFor_63 : decode cX2_chooseFor 63 = .ok (.getfield 96, 3) := by decide +kernel
theorem dX2_chooseFor_66 : decode cX2_chooseFor 66 = .ok (.iconst 1, 1) := by decide +kernel
theorem dX2_chooseFor_67 : decode cX2_chooseFor 67 = .ok (.iadd, 1) := by decide +kernel
theorem dX2_chooseFor_68 : decode cX2_chooseFor 68 = .ok (.putfield 96, 3) := by decide +kernel
theorem dX2_chooseFor_71 : decode cX2_chooseFor 71 = .ok (.iload 7, 2) := by decide +kernel
theorem dX2_chooseFor_73 : decode cX2_chooseFor 73 = .ok (.ifCond .le 13, 3) := by decide +kernel
theorem dX2_chooseFor_76 : decode cX2_chooseFor 76 = .ok (.aload_n 3, 1) := by decide +kernel
theorem dX2_chooseFor_77 : decode cX2_chooseFor 77 = .ok (.dup, 1) := by decide +kernel
theorem dX2_chooseFor_78 : decode cX2_chooseFor 78 = .ok (.getfield 99, 3) := by decide +kernel
theorem dX2_chooseFor_81 : decode cX2_chooseFor 81 = .ok (.iconst 1, 1) := by decide +kernel
theorem dX2_chooseFor_82 : decode cX2_chooseFor 82 = .ok (.iadd, 1) := by decide +kernel
theorem dX2_chooseFor_83 : decode cX2_chooseFor 83 = .ok (.putfield 99, 3) := by decide +kernel
theorem dX2_chooseFor_86 : decode cX2_chooseFor 86 = .ok (.aload_n 0, 1) := by decide +kernel
theorem dX2_chooseFor_87 : decode cX2_chooseFor 87 = .ok (.aload_n 3, 1) := by decide +kernel
theorem dX2_chooseFor_88 : decode cX2_chooseFor 88 = .ok (.iload 5, 2) := by decide +kernel
theorem dX2_chooseFor_90 : decode cX2_chooseFor 90 = .ok (.iload 4, 2) := by decide +kernel
theorem dX2_chooseFor_92 : decode cX2_chooseFor 92 = .ok (.iload_n 2, 1) := by decide +kernel
theorem dX2_chooseFor_93 : decode cX2_chooseFor 93 = .ok (.invokevirtual 102, 3) := by decide +kernel
theorem dX2_chooseFor_96 : decode cX2_chooseFor 96 = .ok (.aload_n 3, 1) := by decide +kernel
theorem dX2_chooseFor_97 : decode cX2_chooseFor 97 = .ok (.getfield 106, 3) := by decide +kernel
theorem dX2_chooseFor_100 : decode cX2_chooseFor 100 = .ok (.ifCond .le 4, 3) := by decide +kernel
theorem dX2_chooseFor_103 : decode cX2_chooseFor 103 = .ok (.return_, 1) := by decide +kernel
theorem dX2_chooseFor_104 : decode cX2_chooseFor 104 = .ok (.aload_n 0, 1) := by decide +kernel
theorem dX2_chooseFor_105 : decode cX2_chooseFor 105 = .ok (.getfield 33, 3) := by decide +kernel
theorem dX2_chooseFor_108 : decode cX2_chooseFor 108 = .ok (.iload 5, 2) := by decide +kernel
theorem dX2_chooseFor_110 : decode cX2_chooseFor 110 = .ok (.iaload, 1) := by decide +kernel
theorem dX2_chooseFor_111 : decode cX2_chooseFor 111 = .ok (.istore 5, 2) := by decide +kernel
theorem dX2_chooseFor_113 : decode cX2_chooseFor 113 = .ok (.iinc 7 1, 3) := by decide +kernel
theorem dX2_chooseFor_116 : decode cX2_chooseFor 116 = .ok (.goto (-81), 3) := by decide +kernel
theorem dX2_chooseFor_119 : decode cX2_chooseFor 119 = .ok (.aload_n 3, 1) := by decide +kernel
theorem dX2_chooseFor_120 : decode cX2_chooseFor 120 = .ok (.invokevirtual 107, 3) := by decide +kernel
theorem dX2_chooseFor_123 : decode cX2_chooseFor 123 = .ok (.return_, 1) := by decide +kernel
theorem dX2_climb_0 : decode cX2_climb 0 = .ok (.iload_n 3, 1) := by decide +kernel
theorem dX2_climb_1 : decode cX2_climb 1 = .ok (.istore 5, 2) := by decide +kernel
theorem dX2_climb_3 : decode cX2_climb 3 = .ok (.iconst 0, 1) := by decide +kernel
theorem dX2_climb_4 : decode cX2_climb 4 = .ok (.istore 6, 2) := by decide +kernel
theorem dX2_climb_6 : decode cX2_climb 6 = .ok (.iload 6, 2) := by decide +kernel
theorem dX2_climb_8 : decode cX2_climb 8 = .ok (.bipush 7, 2) := by decide +kernel
theorem dX2_climb_10 : decode cX2_climb 10 = .ok (.if_icmp .gt 54, 3) := by decide +kernel
theorem dX2_climb_13 : decode cX2_climb 13 = .ok (.aload_n 0, 1) := by decide +kernel
theorem dX2_climb_14 : decode cX2_climb 14 = .ok (.aload_n 1, 1) := by decide +kernel
theorem dX2_climb_15 : decode cX2_climb 15 = .ok (.iload_n 2, 1) := by decide +kernel
theorem dX2_climb_16 : decode cX2_climb 16 = .ok (.iload 5, 2) := by decide +kernel
theorem dX2_climb_18 : decode cX2_climb 18 = .ok (.iload 4, 2) := by decide +kernel
theorem dX2_climb_20 : decode cX2_climb 20 = .ok (.invokevirtual 110, 3) := by decide +kernel
theorem dX2_climb_23 : decode cX2_climb 23 = .ok (.aload_n 0, 1) := by decide +kernel
theorem dX2_climb_24 : decode cX2_climb 24 = .ok (.getfield 29, 3) := by decide +kernel
theorem dX2_climb_27 : decode cX2_climb 27 = .ok (.iload 5, 2) := by decide +kernel
theorem dX2_climb_29 : decode cX2_climb 29 = .ok (.invokevirtual 113, 3) := by decide +kernel
theorem dX2_climb_32 : decode cX2_climb 32 = .ok (.istore 5, 2) := by decide +kernel
theorem dX2_climb_34 : decode cX2_climb 34 = .ok (.aload_n 1, 1) := by decide +kernel
theorem dX2_climb_35 : decode cX2_climb 35 = .ok (.getfield 106, 3) := by decide +kernel
theorem dX2_climb_38 : decode cX2_climb 38 = .ok (.ifCond .gt 9, 3) := by decide +kernel
theorem dX2_climb_41 : decode cX2_climb 41 = .ok (.iload 5, 2) := by decide +kernel
theorem dX2_climb_43 : decode cX2_climb 43 = .ok (.iconst (-1), 1) := by decide +kernel
theorem dX2_climb_44 : decode cX2_climb 44 = .ok (.if_icmp .ne 4, 3) := by decide +kernel
theorem dX2_climb_47 : decode cX2_climb 47 = .ok (.return_, 1) := by decide +kernel
theorem dX2_climb_48 : decode cX2_climb 48 = .ok (.aload_n 1, 1) := by decide +kernel
theorem dX2_climb_49 : decode cX2_climb 49 = .ok (.dup, 1) := by decide +kernel
theorem dX2_climb_50 : decode cX2_climb 50 = .ok (.getfield 99, 3) := by decide +kernel
theorem dX2_climb_53 : decode cX2_climb 53 = .ok (.iconst 1, 1) := by decide +kernel
theorem dX2_climb_54 : decode cX2_climb 54 = .ok (.iadd, 1) := by decide +kernel
theorem dX2_climb_55 : decode cX2_climb 55 = .ok (.putfield 99, 3) := by decide +kernel
theorem dX2_climb_58 : decode cX2_climb 58 = .ok (.iinc 6 1, 3) := by decide +kernel
theorem dX2_climb_61 : decode cX2_climb 61 = .ok (.goto (-55), 3) := by decide +kernel
theorem dX2_climb_64 : decode cX2_climb 64 = .ok (.return_, 1) := by decide +kernel
theorem dX2_gather_0 : decode cX2_gather 0 = .ok (.iconst 0, 1) := by decide +kernel
theorem dX2_gather_1 : decode cX2_gather 1 = .ok (.istore 5, 2) := by decide +kernel
theorem dX2_gather_3 : decode cX2_gather 3 = .ok (.iload 5, 2) := by decide +kernel
theorem dX2_gather_5 : decode cX2_gather 5 = .ok (.aload_n 0, 1) := by decide +kernel
theorem dX2_gather_6 : decode cX2_gather 6 = .ok (.getfield 21, 3) := by decide +kernel
theorem dX2_gather_9 : decode cX2_gather 9 = .ok (.getfield 83, 3) := by decide +kernel
theorem dX2_gather_12 : decode cX2_gather 12 = .ok (.if_icmp .ge 54, 3) := by decide +kernel
theorem dX2_gather_15 : decode cX2_gather 15 = .ok (.iload 5, 2) := by decide +kernel
theorem dX2_gather_17 : decode cX2_gather 17 = .ok (.iload 4, 2) := by decide +kernel
theorem dX2_gather_19 : decode cX2_gather 19 = .ok (.if_icmp .eq 41, 3) := by decide +kernel
theorem dX2_gather_22 : decode cX2_gather 22 = .ok (.aload_n 0, 1) := by decide +kernel
theorem dX2_gather_23 : decode cX2_gather 23 = .ok (.getfield 21, 3) := by decide +kernel
theorem dX2_gather_26 : decode cX2_gather 26 = .ok (.getfield 116, 3) := by decide +kernel
theorem dX2_gather_29 : decode cX2_gather 29 = .ok (.iload 5, 2) := by decide +kernel
theorem dX2_gather_31 : decode cX2_gather 31 = .ok (.iaload, 1) := by decide +kernel
theorem dX2_gather_32 : decode cX2_gather 32 = .ok (.iload_n 2, 1) := by decide +kernel
theorem dX2_gather_33 : decode cX2_gather 33 = .ok (.if_icmp .ne 27, 3) := by decide +kernel
theorem dX2_gather_36 : decode cX2_gather 36 = .ok (.aload_n 0, 1) := by decide +kernel
theorem dX2_gather_37 : decode cX2_gather 37 = .ok (.getfield 29, 3) := by decide +kernel
theorem dX2_gather_40 : decode cX2_gather 40 = .ok (.aload_n 0, 1) := by decide +kernel
theorem dX2_gather_41 : decode cX2_gather 41 = .ok (.getfield 9, 3) := by decide +kernel
theorem dX2_gather_44 : decode cX2_gather 44 = .ok (.iload 5, 2) := by decide +kernel
theorem dX2_gather_46 : decode cX2_gather 46 = .ok (.iaload, 1) := by decide +kernel
theorem dX2_gather_47 : decode cX2_gather 47 = .ok (.iload_n 3, 1) := by decide +kernel
theorem dX2_gather_48 : decode cX2_gather 48 = .ok (.invokevirtual 117, 3) := by decide +kernel
theorem dX2_gather_51 : decode cX2_gather 51 = .ok (.ifCond .eq 9, 3) := by decide +kernel
theorem dX2_gather_54 : decode cX2_gather 54 = .ok (.aload_n 1, 1) := by decide +kernel
theorem dX2_gather_55 : decode cX2_gather 55 = .ok (.iload 5, 2) := by decide +kernel
theorem dX2_gather_57 : decode cX2_gather 57 = .ok (.invokevirtual 121, 3) := by decide +kernel
theorem dX2_gather_60 : decode cX2_gather 60 = .ok (.iinc 5 1, 3) := by decide +kernel
theorem dX2_gather_63 : decode cX2_gather 63 = .ok (.goto (-60), 3) := by decide +kernel
theorem dX2_gather_66 : decode cX2_gather 66 = .ok (.return_, 1) := by decide +kernel
theorem dX3_init_0 : decode cX3_init 0 = .ok (.aload_n 0, 1) := by decide +kernel
theorem dX3_init_1 : decode cX3_init 1 = .ok (.invokespecial 1, 3) := by decide +kernel
theorem dX3_init_4 : decode cX3_init 4 = .ok (.aload_n 0, 1) := by decide +kernel
theorem dX3_init_5 : decode cX3_init 5 = .ok (.aload_n 1, 1) := by decide +kernel
theorem dX3_init_6 : decode cX3_init 6 = .ok (.putfield 7, 3) := by decide +kernel
theorem dX3_init_9 : decode cX3_init 9 = .ok (.aload_n 0, 1) := by decide +kernel
theorem dX3_init_10 : decode cX3_init 10 = .ok (.aload_n 2, 1) := by decide +kernel
theorem dX3_init_11 : decode cX3_init 11 = .ok (.putfield 13, 3) := by decide +kernel
theorem dX3_init_14 : decode cX3_init 14 = .ok (.return_, 1) := by decide +kernel
theorem dX3_ofFit_0 : decode cX3_ofFit 0 = .ok (.aload_n 0, 1) := by decide +kernel
theorem dX3_ofFit_1 : decode cX3_ofFit 1 = .ok (.getfield 7, 3) := by decide +kernel
theorem dX3_ofFit_4 : decode cX3_ofFit 4 = .ok (.getfield 17, 3) := by decide +kernel
theorem dX3_ofFit_7 : decode cX3_ofFit 7 = .ok (.iload_n 2, 1) := by decide +kernel
theorem dX3_ofFit_8 : decode cX3_ofFit 8 = .ok (.iaload, 1) := by decide +kernel
theorem dX3_ofFit_9 : decode cX3_ofFit 9 = .ok (.aload_n 0, 1) := by decide +kernel
theorem dX3_ofFit_10 : decode cX3_ofFit 10 = .ok (.getfield 13, 3) := by decide +kernel
theorem dX3_ofFit_13 : decode cX3_ofFit 13 = .ok (.getfield 23, 3) := by decide +kernel
theorem dX3_ofFit_16 : decode cX3_ofFit 16 = .ok (.iload_n 3, 1) := by decide +kernel
theorem dX3_ofFit_17 : decode cX3_ofFit 17 = .ok (.iaload, 1) := by decide +kernel
theorem dX3_ofFit_18 : decode cX3_ofFit 18 = .ok (.isub, 1) := by decide +kernel
theorem dX3_ofFit_19 : decode cX3_ofFit 19 = .ok (.invokestatic 26, 3) := by decide +kernel
theorem dX3_ofFit_22 : decode cX3_ofFit 22 = .ok (.istore 4, 2) := by decide +kernel
theorem dX3_ofFit_24 : decode cX3_ofFit 24 = .ok (.iload 4, 2) := by decide +kernel
theorem dX3_ofFit_26 : decode cX3_ofFit 26 = .ok (.aload_n 0, 1) := by decide +kernel
theorem dX3_ofFit_27 : decode cX3_ofFit 27 = .ok (.getfield 7, 3) := by decide +kernel
theorem dX3_ofFit_30 : decode cX3_ofFit 30 = .ok (.getfield 32, 3) := by decide +kernel
theorem dX3_ofFit_33 : decode cX3_ofFit 33 = .ok (.iload_n 2, 1) := by decide +kernel
theorem dX3_ofFit_34 : decode cX3_ofFit 34 = .ok (.iaload, 1) := by decide +kernel
theorem dX3_ofFit_35 : decode cX3_ofFit 35 = .ok (.aload_n 0, 1) := by decide +kernel
theorem dX3_ofFit_36 : decode cX3_ofFit 36 = .ok (.getfield 13, 3) := by decide +kernel
theorem dX3_ofFit_39 : decode cX3_ofFit 39 = .ok (.getfield 35, 3) := by decide +kernel
theorem dX3_ofFit_42 : decode cX3_ofFit 42 = .ok (.iload_n 3, 1) := by decide +kernel
theorem dX3_ofFit_43 : decode cX3_ofFit 43 = .ok (.iaload, 1) := by decide +kernel
theorem dX3_ofFit_44 : decode cX3_ofFit 44 = .ok (.isub, 1) := by decide +kernel
theorem dX3_ofFit_45 : decode cX3_ofFit 45 = .ok (.invokestatic 26, 3) := by decide +kernel
theorem dX3_ofFit_48 : decode cX3_ofFit 48 = .ok (.iadd, 1) := by decide +kernel
theorem dX3_ofFit_49 : decode cX3_ofFit 49 = .ok (.istore 5, 2) := by decide +kernel
theorem dX3_ofFit_51 : decode cX3_ofFit 51 = .ok (.iload_n 1, 1) := by decide +kernel
theorem dX3_ofFit_52 : decode cX3_ofFit 52 = .ok (.tableswitch 68 1 4 #[32, 42, 48, 60], 32) := by decide +kernel
theorem dX3_ofFit_84 : decode cX3_ofFit 84 = .ok (.iload 5, 2) := by decide +kernel
theorem dX3_ofFit_86 : decode cX3_ofFit 86 = .ok (.aload_n 0, 1) := by decide +kernel
theorem dX3_ofFit_87 : decode cX3_ofFit 87 = .ok (.iload_n 2, 1) := by decide +kernel
theorem dX3_ofFit_88 : decode cX3_ofFit 88 = .ok (.iload_n 3, 1) := by decide +kernel
theorem dX3_ofFit_89 : decode cX3_ofFit 89 = .ok (.invokevirtual 36, 3) := by decide +kernel
theorem dX3_ofFit_92 : decode cX3_ofFit 92 = .ok (.iadd, 1) := by decide +kernel
theorem dX3_ofFit_93 : decode cX3_ofFit 93 = .ok (.ireturn, 1) := by decide +kernel
theorem dX3_ofFit_94 : decode cX3_ofFit 94 = .ok (.iload 5, 2) := by decide +kernel
theorem dX3_ofFit_96 : decode cX3_ofFit 96 = .ok (.iload 4, 2) := by decide +kernel
theorem dX3_ofFit_98 : decode cX3_ofFit 98 = .ok (.iadd, 1) := by decide +kernel
theorem dX3_ofFit_99 : decode cX3_ofFit 99 = .ok (.ireturn, 1) := by decide +kernel
theorem dX3_ofFit_100 : decode cX3_ofFit 100 = .ok (.iconst 2, 1) := by decide +kernel
theorem dX3_ofFit_101 : decode cX3_ofFit 101 = .ok (.iload 5, 2) := by decide +kernel
theorem dX3_ofFit_103 : decode cX3_ofFit 103 = .ok (.aload_n 0, 1) := by decide +kernel
theorem dX3_ofFit_104 : decode cX3_ofFit 104 = .ok (.iload_n 2, 1) := by decide +kernel
theorem dX3_ofFit_105 : decode cX3_ofFit 105 = .ok (.iload_n 3, 1) := by decide +kernel
theorem dX3_ofFit_106 : decode cX3_ofFit 106 = .ok (.invokevirtual 36, 3) := by decide +kernel
theorem dX3_ofFit_109 : decode cX3_ofFit 109 = .ok (.iadd, 1) := by decide +kernel
theorem dX3_ofFit_110 : decode cX3_ofFit 110 = .ok (.imul, 1) := by decide +kernel
theorem dX3_ofFit_111 : decode cX3_ofFit 111 = .ok (.ireturn, 1) := by decide +kernel
theorem dX3_ofFit_112 : decode cX3_ofFit 112 = .ok (.iload 5, 2) := by decide +kernel
theorem dX3_ofFit_114 : decode cX3_ofFit 114 = .ok (.iload 4, 2) := by decide +kernel
theorem dX3_ofFit_116 : decode cX3_ofFit 116 = .ok (.iadd, 1) := by decide +kernel
theorem dX3_ofFit_117 : decode cX3_ofFit 117 = .ok (.iconst 2, 1) := by decide +kernel
theorem dX3_ofFit_118 : decode cX3_ofFit 118 = .ok (.idiv, 1) := by decide +kernel
theorem dX3_ofFit_119 : decode cX3_ofFit 119 = .ok (.ireturn, 1) := by decide +kernel
theorem dX3_ofFit_120 : decode cX3_ofFit 120 = .ok (.iload 5, 2) := by decide +kernel
theorem dX3_ofFit_122 : decode cX3_ofFit 122 = .ok (.ireturn, 1) := by decide +kernel
theorem dX3_besidePart_0 : decode cX3_besidePart 0 = .ok (.aload_n 0, 1) := by decide +kernel
theorem dX3_besidePart_1 : decode cX3_besidePart 1 = .ok (.getfield 7, 3) := by decide +kernel
theorem dX3_besidePart_4 : decode cX3_besidePart 4 = .ok (.getfield 40, 3) := by decide +kernel
theorem dX3_besidePart_7 : decode cX3_besidePart 7 = .ok (.iload_n 1, 1) := by decide +kernel
theorem dX3_besidePart_8 : decode cX3_besidePart 8 = .ok (.iaload, 1) := by decide +kernel
theorem dX3_besidePart_9 : decode cX3_besidePart 9 = .ok (.aload_n 0, 1) := by decide +kernel
theorem dX3_besidePart_10 : decode cX3_besidePart 10 = .ok (.getfield 13, 3) := by decide +kernel
theorem dX3_besidePart_13 : decode cX3_besidePart 13 = .ok (.iload_n 2, 1) := by decide +kernel
theorem dX3_besidePart_14 : decode cX3_besidePart 14 = .ok (.invokevirtual 43, 3) := by decide +kernel
theorem dX3_besidePart_17 : decode cX3_besidePart 17 = .ok (.if_icmp .ne 7, 3) := by decide +kernel
theorem dX3_besidePart_20 : decode cX3_besidePart 20 = .ok (.iconst 0, 1) := by decide +kernel
theorem dX3_besidePart_21 : decode cX3_besidePart 21 = .ok (.goto 4, 3) := by decide +kernel
theorem dX3_besidePart_24 : decode cX3_besidePart 24 = .ok (.iconst 2, 1) := by decide +kernel
theorem dX3_besidePart_25 : decode cX3_besidePart 25 = .ok (.istore_n 3, 1) := by decide +kernel
theorem dX3_besidePart_26 : decode cX3_besidePart 26 = .ok (.aload_n 0, 1) := by decide +kernel
theorem dX3_besidePart_27 : decode cX3_besidePart 27 = .ok (.getfield 7, 3) := by decide +kernel
theorem dX3_besidePart_30 : decode cX3_besidePart 30 = .ok (.getfield 46, 3) := by decide +kernel
theorem dX3_besidePart_33 : decode cX3_besidePart 33 = .ok (.iload_n 1, 1) := by decide +kernel
theorem dX3_besidePart_34 : decode cX3_besidePart 34 = .ok (.iaload, 1) := by decide +kernel
theorem dX3_besidePart_35 : decode cX3_besidePart 35 = .ok (.aload_n 0, 1) := by decide +kernel
theorem dX3_besidePart_36 : decode cX3_besidePart 36 = .ok (.getfield 13, 3) := by decide +kernel
theorem dX3_besidePart_39 : decode cX3_besidePart 39 = .ok (.iload_n 2, 1) := by decide +kernel
theorem dX3_besidePart_40 : decode cX3_besidePart 40 = .ok (.invokevirtual 49, 3) := by decide +kernel
theorem dX3_besidePart_43 : decode cX3_besidePart 43 = .ok (.if_icmp .ne 7, 3) := by decide +kernel
theorem dX3_besidePart_46 : decode cX3_besidePart 46 = .ok (.iconst 0, 1) := by decide +kernel
theorem dX3_besidePart_47 : decode cX3_besidePart 47 = .ok (.goto 4, 3) := by decide +kernel
theorem dX3_besidePart_50 : decode cX3_besidePart 50 = .ok (.iconst 2, 1) := by decide +kernel
theorem dX3_besidePart_51 : decode cX3_besidePart 51 = .ok (.istore 4, 2) := by decide +kernel
theorem dX3_besidePart_53 : decode cX3_besidePart 53 = .ok (.iload_n 3, 1) := by decide +kernel
theorem dX3_besidePart_54 : decode cX3_besidePart 54 = .ok (.iload 4, 2) := by decide +kernel
theorem dX3_besidePart_56 : decode cX3_besidePart 56 = .ok (.iadd, 1) := by decide +kernel
theorem dX3_besidePart_57 : decode cX3_besidePart 57 = .ok (.ireturn, 1) := by decide +kernel
theorem dX3_ofJoint_0 : decode cX3_ofJoint 0 = .ok (.aload_n 0, 1) := by decide +kernel
theorem dX3_ofJoint_1 : decode cX3_ofJoint 1 = .ok (.getfield 7, 3) := by decide +kernel
theorem dX3_ofJoint_4 : decode cX3_ofJoint 4 = .ok (.getfield 52, 3) := by decide +kernel
theorem dX3_ofJoint_7 : decode cX3_ofJoint 7 = .ok (.iload_n 1, 1) := by decide +kernel
theorem dX3_ofJoint_8 : decode cX3_ofJoint 8 = .ok (.iaload, 1) := by decide +kernel
theorem dX3_ofJoint_9 : decode cX3_ofJoint 9 = .ok (.iload_n 2, 1) := by decide +kernel
theorem dX3_ofJoint_10 : decode cX3_ofJoint 10 = .ok (.if_icmp .ne 5, 3) := by decide +kernel
theorem dX3_ofJoint_13 : decode cX3_ofJoint 13 = .ok (.iconst 0, 1) := by decide +kernel
theorem dX3_ofJoint_14 : decode cX3_ofJoint 14 = .ok (.ireturn, 1) := by decide +kernel
theorem dX3_ofJoint_15 : decode cX3_ofJoint 15 = .ok (.aload_n 0, 1) := by decide +kernel
theorem dX3_ofJoint_16 : decode cX3_ofJoint 16 = .ok (.getfield 7, 3) := by decide +kernel
theorem dX3_ofJoint_19 : decode cX3_ofJoint 19 = .ok (.getfield 46, 3) := by decide +kernel
theorem dX3_ofJoint_22 : decode cX3_ofJoint 22 = .ok (.iload_n 1, 1) := by decide +kernel
theorem dX3_ofJoint_23 : decode cX3_ofJoint 23 = .ok (.iaload, 1) := by decide +kernel
theorem dX3_ofJoint_24 : decode cX3_ofJoint 24 = .ok (.aload_n 0, 1) := by decide +kernel
theorem dX3_ofJoint_25 : decode cX3_ofJoint 25 = .ok (.getfield 7, 3) := by decide +kernel
theorem dX3_ofJoint_28 : decode cX3_ofJoint 28 = .ok (.getfield 55, 3) := by decide +kernel
theorem dX3_ofJoint_31 : decode cX3_ofJoint 31 = .ok (.iload_n 2, 1) := by decide +kernel
theorem dX3_ofJoint_32 : decode cX3_ofJoint 32 = .ok (.iaload, 1) := by decide +kernel
theorem dX3_ofJoint_33 : decode cX3_ofJoint 33 = .ok (.if_icmp .ne 7, 3) := by decide +kernel
theorem dX3_ofJoint_36 : decode cX3_ofJoint 36 = .ok (.iconst 0, 1) := by decide +kernel
theorem dX3_ofJoint_37 : decode cX3_ofJoint 37 = .ok (.goto 4, 3) := by decide +kernel
theorem dX3_ofJoint_40 : decode cX3_ofJoint 40 = .ok (.iconst 2, 1) := by decide +kernel
theorem dX3_ofJoint_41 : decode cX3_ofJoint 41 = .ok (.istore_n 3, 1) := by decide +kernel
theorem dX3_ofJoint_42 : decode cX3_ofJoint 42 = .ok (.aload_n 0, 1) := by decide +kernel
theorem dX3_ofJoint_43 : decode cX3_ofJoint 43 = .ok (.getfield 7, 3) := by decide +kernel
theorem dX3_ofJoint_46 : decode cX3_ofJoint 46 = .ok (.getfield 40, 3) := by decide +kernel
theorem dX3_ofJoint_49 : decode cX3_ofJoint 49 = .ok (.iload_n 2, 1) := by decide +kernel
theorem dX3_ofJoint_50 : decode cX3_ofJoint 50 = .ok (.iaload, 1) := by decide +kernel
theorem dX3_ofJoint_51 : decode cX3_ofJoint 51 = .ok (.aload_n 0, 1) := by decide +kernel
theorem dX3_ofJoint_52 : decode cX3_ofJoint 52 = .ok (.getfield 7, 3) := by decide +kernel
theorem dX3_ofJoint_55 : decode cX3_ofJoint 55 = .ok (.getfield 55, 3) := by decide +kernel
theorem dX3_ofJoint_58 : decode cX3_ofJoint 58 = .ok (.iload_n 1, 1) := by decide +kernel
theorem dX3_ofJoint_59 : decode cX3_ofJoint 59 = .ok (.iaload, 1) := by decide +kernel
theorem dX3_ofJoint_60 : decode cX3_ofJoint 60 = .ok (.if_icmp .ne 7, 3) := by decide +kernel
theorem dX3_ofJoint_63 : decode cX3_ofJoint 63 = .ok (.iconst 0, 1) := by decide +kernel
theorem dX3_ofJoint_64 : decode cX3_ofJoint 64 = .ok (.goto 4, 3) := by decide +kernel
theorem dX3_ofJoint_67 : decode cX3_ofJoint 67 = .ok (.iconst 2, 1) := by decide +kernel
theorem dX3_ofJoint_68 : decode cX3_ofJoint 68 = .ok (.istore 4, 2) := by decide +kernel
theorem dX3_ofJoint_70 : decode cX3_ofJoint 70 = .ok (.iconst 3, 1) := by decide +kernel
theorem dX3_ofJoint_71 : decode cX3_ofJoint 71 = .ok (.aload_n 0, 1) := by decide +kernel
theorem dX3_ofJoint_72 : decode cX3_ofJoint 72 = .ok (.getfield 7, 3) := by decide +kernel
theorem dX3_ofJoint_75 : decode cX3_ofJoint 75 = .ok (.getfield 17, 3) := by decide +kernel
theorem dX3_ofJoint_78 : decode cX3_ofJoint 78 = .ok (.iload_n 1, 1) := by decide +kernel
theorem dX3_ofJoint_79 : decode cX3_ofJoint 79 = .ok (.iaload, 1) := by decide +kernel
theorem dX3_ofJoint_80 : decode cX3_ofJoint 80 = .ok (.aload_n 0, 1) := by decide +kernel
theorem dX3_ofJoint_81 : decode cX3_ofJoint 81 = .ok (.getfield 7, 3) := by decide +kernel
theorem dX3_ofJoint_84 : decode cX3_ofJoint 84 = .ok (.getfield 17, 3) := by decide +kernel
theorem dX3_ofJoint_87 : decode cX3_ofJoint 87 = .ok (.iload_n 2, 1) := by decide +kernel
theorem dX3_ofJoint_88 : decode cX3_ofJoint 88 = .ok (.iaload, 1) := by decide +kernel
theorem dX3_ofJoint_89 : decode cX3_ofJoint 89 = .ok (.isub, 1) := by decide +kernel
theorem dX3_ofJoint_90 : decode cX3_ofJoint 90 = .ok (.invokestatic 26, 3) := by decide +kernel
theorem dX3_ofJoint_93 : decode cX3_ofJoint 93 = .ok (.iadd, 1) := by decide +kernel
theorem dX3_ofJoint_94 : decode cX3_ofJoint 94 = .ok (.iload_n 3, 1) := by decide +kernel
theorem dX3_ofJoint_95 : decode cX3_ofJoint 95 = .ok (.iadd, 1) := by decide +kernel
theorem dX3_ofJoint_96 : decode cX3_ofJoint 96 = .ok (.iload 4, 2) := by decide +kernel
theorem dX3_ofJoint_98 : decode cX3_ofJoint 98 = .ok (.iadd, 1) := by decide +kernel
theorem dX3_ofJoint_99 : decode cX3_ofJoint 99 = .ok (.ireturn, 1) := by decide +kernel
theorem dX4_init_0 : decode cX4_init 0 = .ok (.aload_n 0, 1) := by decide +kernel
theorem dX4_init_1 : decode cX4_init 1 = .ok (.invokespecial 3, 3) := by decide +kernel
theorem dX4_init_4 : decode cX4_init 4 = .ok (.aload_n 0, 1) := by decide +kernel
theorem dX4_init_5 : decode cX4_init 5 = .ok (.bipush 8, 2) := by decide +kernel
theorem dX4_init_7 : decode cX4_init 7 = .ok (.newarray .int, 2) := by decide +kernel
theorem dX4_init_9 : decode cX4_init 9 = .ok (.putfield 9, 3) := by decide +kernel
theorem dX4_init_12 : decode cX4_init 12 = .ok (.aload_n 0, 1) := by decide +kernel
theorem dX4_init_13 : decode cX4_init 13 = .ok (.bipush 8, 2) := by decide +kernel
theorem dX4_init_15 : decode cX4_init 15 = .ok (.newarray .int, 2) := by decide +kernel
theorem dX4_init_17 : decode cX4_init 17 = .ok (.putfield 15, 3) := by decide +kernel
theorem dX4_init_20 : decode cX4_init 20 = .ok (.aload_n 0, 1) := by decide +kernel
theorem dX4_init_21 : decode cX4_init 21 = .ok (.bipush 8, 2) := by decide +kernel
theorem dX4_init_23 : decode cX4_init 23 = .ok (.newarray .int, 2) := by decide +kernel
theorem dX4_init_25 : decode cX4_init 25 = .ok (.putfield 18, 3) := by decide +kernel
theorem dX4_init_28 : decode cX4_init 28 = .ok (.return_, 1) := by decide +kernel
theorem dX4_add_0 : decode cX4_add 0 = .ok (.aload_n 0, 1) := by decide +kernel
theorem dX4_add_1 : decode cX4_add 1 = .ok (.getfield 21, 3) := by decide +kernel
theorem dX4_add_4 : decode cX4_add 4 = .ok (.ifCond .lt 52, 3) := by decide +kernel
theorem dX4_add_7 : decode cX4_add 7 = .ok (.aload_n 0, 1) := by decide +kernel
theorem dX4_add_8 : decode cX4_add 8 = .ok (.getfield 21, 3) := by decide +kernel
theorem dX4_add_11 : decode cX4_add 11 = .ok (.bipush 8, 2) := by decide +kernel
theorem dX4_add_13 : decode cX4_add 13 = .ok (.if_icmp .ge 43, 3) := by decide +kernel
theorem dX4_add_16 : decode cX4_add 16 = .ok (.aload_n 0, 1) := by decide +kernel
theorem dX4_add_17 : decode cX4_add 17 = .ok (.getfield 9, 3) := by decide +kernel
theorem dX4_add_20 : decode cX4_add 20 = .ok (.aload_n 0, 1) := by decide +kernel
theorem dX4_add_21 : decode cX4_add 21 = .ok (.getfield 21, 3) := by decide +kernel
theorem dX4_add_24 : decode cX4_add 24 = .ok (.iload_n 1, 1) := by decide +kernel
theorem dX4_add_25 : decode cX4_add 25 = .ok (.iastore, 1) := by decide +kernel
theorem dX4_add_26 : decode cX4_add 26 = .ok (.aload_n 0, 1) := by decide +kernel
theorem dX4_add_27 : decode cX4_add 27 = .ok (.getfield 15, 3) := by decide +kernel
theorem dX4_add_30 : decode cX4_add 30 = .ok (.aload_n 0, 1) := by decide +kernel
theorem dX4_add_31 : decode cX4_add 31 = .ok (.getfield 21, 3) := by decide +kernel
theorem dX4_add_34 : decode cX4_add 34 = .ok (.iload_n 2, 1) := by decide +kernel
theorem dX4_add_35 : decode cX4_add 35 = .ok (.iastore, 1) := by decide +kernel
theorem dX4_add_36 : decode cX4_add 36 = .ok (.aload_n 0, 1) := by decide +kernel
theorem dX4_add_37 : decode cX4_add 37 = .ok (.getfield 18, 3) := by decide +kernel
theorem dX4_add_40 : decode cX4_add 40 = .ok (.aload_n 0, 1) := by decide +kernel
theorem dX4_add_41 : decode cX4_add 41 = .ok (.getfield 21, 3) := by decide +kernel
theorem dX4_add_44 : decode cX4_add 44 = .ok (.iload_n 3, 1) := by decide +kernel
theorem dX4_add_45 : decode cX4_add 45 = .ok (.iastore, 1) := by decide +kernel
theorem dX4_add_46 : decode cX4_add 46 = .ok (.aload_n 0, 1) := by decide +kernel
theorem dX4_add_47 : decode cX4_add 47 = .ok (.dup, 1) := by decide +kernel
theorem dX4_add_48 : decode cX4_add 48 = .ok (.getfield 21, 3) := by decide +kernel
theorem dX4_add_51 : decode cX4_add 51 = .ok (.iconst 1, 1) := by decide +kernel
theorem dX4_add_52 : decode cX4_add 52 = .ok (.iadd, 1) := by decide +kernel
theorem dX4_add_53 : decode cX4_add 53 = .ok (.putfield 21, 3) := by decide +kernel
theorem dX4_add_56 : decode cX4_add 56 = .ok (.return_, 1) := by decide +kernel
theorem dX4_become_0 : decode cX4_become 0 = .ok (.aload_n 0, 1) := by decide +kernel
theorem dX4_become_1 : decode cX4_become 1 = .ok (.iconst 0, 1) := by decide +kernel
theorem dX4_become_2 : decode cX4_become 2 = .ok (.putfield 21, 3) := by decide +kernel
theorem dX4_become_5 : decode cX4_become 5 = .ok (.iconst 0, 1) := by decide +kernel
theorem dX4_become_6 : decode cX4_become 6 = .ok (.istore_n 2, 1) := by decide +kernel
theorem dX4_become_7 : decode cX4_become 7 = .ok (.iload_n 2, 1) := by decide +kernel
theorem dX4_become_8 : decode cX4_become 8 = .ok (.bipush 8, 2) := by decide +kernel
theorem dX4_become_10 : decode cX4_become 10 = .ok (.if_icmp .ge 39, 3) := by decide +kernel
theorem dX4_become_13 : decode cX4_become 13 = .ok (.iload_n 2, 1) := by decide +kernel
theorem dX4_become_14 : decode cX4_become 14 = .ok (.aload_n 1, 1) := by decide +kernel
theorem dX4_become_15 : decode cX4_become 15 = .ok (.getfield 21, 3) := by decide +kernel
theorem dX4_become_18 : decode cX4_become 18 = .ok (.if_icmp .ge 31, 3) := by decide +kernel
theorem dX4_become_21 : decode cX4_become 21 = .ok (.aload_n 0, 1) := by decide +kernel
theorem dX4_become_22 : decode cX4_become 22 = .ok (.aload_n 1, 1) := by decide +kernel
theorem dX4_become_23 : decode cX4_become 23 = .ok (.getfield 9, 3) := by decide +kernel
theorem dX4_become_26 : decode cX4_become 26 = .ok (.iload_n 2, 1) := by decide +kernel
theorem dX4_become_27 : decode cX4_become 27 = .ok (.iaload, 1) := by decide +kernel
theorem dX4_become_28 : decode cX4_become 28 = .ok (.aload_n 1, 1) := by decide +kernel
theorem dX4_become_29 : decode cX4_become 29 = .ok (.getfield 15, 3) := by decide +kernel
theorem dX4_become_32 : decode cX4_become 32 = .ok (.iload_n 2, 1) := by decide +kernel
theorem dX4_become_33 : decode cX4_become 33 = .ok (.iaload, 1) := by decide +kernel
theorem dX4_become_34 : decode cX4_become 34 = .ok (.aload_n 1, 1) := by decide +kernel
theorem dX4_become_35 : decode cX4_become 35 = .ok (.getfield 18, 3) := by decide +kernel
theorem dX4_become_38 : decode cX4_become 38 = .ok (.iload_n 2, 1) := by decide +kernel
theorem dX4_become_39 : decode cX4_become 39 = .ok (.iaload, 1) := by decide +kernel
theorem dX4_become_40 : decode cX4_become 40 = .ok (.invokevirtual 25, 3) := by decide +kernel
theorem dX4_become_43 : decode cX4_become 43 = .ok (.iinc 2 1, 3) := by decide +kernel
theorem dX4_become_46 : decode cX4_become 46 = .ok (.goto (-39), 3) := by decide +kernel
theorem dX4_become_49 : decode cX4_become 49 = .ok (.return_, 1) := by decide +kernel
theorem dX4_leftOf_0 : decode cX4_leftOf 0 = .ok (.iload_n 1, 1) := by decide +kernel
theorem dX4_leftOf_1 : decode cX4_leftOf 1 = .ok (.ifCond .le 22, 3) := by decide +kernel
theorem dX4_leftOf_4 : decode cX4_leftOf 4 = .ok (.iload_n 1, 1) := by decide +kernel
theorem dX4_leftOf_5 : decode cX4_leftOf 5 = .ok (.aload_n 0, 1) := by decide +kernel
theorem dX4_leftOf_6 : decode cX4_leftOf 6 = .ok (.getfield 21, 3) := by decide +kernel
theorem dX4_leftOf_9 : decode cX4_leftOf 9 = .ok (.if_icmp .ge 14, 3) := by decide +kernel
theorem dX4_leftOf_12 : decode cX4_leftOf 12 = .ok (.aload_n 0, 1) := by decide +kernel
theorem dX4_leftOf_13 : decode cX4_leftOf 13 = .ok (.getfield 9, 3) := by decide +kernel
theorem dX4_leftOf_16 : decode cX4_leftOf 16 = .ok (.iload_n 1, 1) := by decide +kernel
theorem dX4_leftOf_17 : decode cX4_leftOf 17 = .ok (.iconst 1, 1) := by decide +kernel
theorem dX4_leftOf_18 : decode cX4_leftOf 18 = .ok (.isub, 1) := by decide +kernel
theorem dX4_leftOf_19 : decode cX4_leftOf 19 = .ok (.iaload, 1) := by decide +kernel
theorem dX4_leftOf_20 : decode cX4_leftOf 20 = .ok (.goto 5, 3) := by decide +kernel
theorem dX4_leftOf_23 : decode cX4_leftOf 23 = .ok (.bipush 6, 2) := by decide +kernel
theorem dX4_leftOf_25 : decode cX4_leftOf 25 = .ok (.ireturn, 1) := by decide +kernel
theorem dX4_rightOf_0 : decode cX4_rightOf 0 = .ok (.iload_n 1, 1) := by decide +kernel
theorem dX4_rightOf_1 : decode cX4_rightOf 1 = .ok (.ifCond .lt 24, 3) := by decide +kernel
theorem dX4_rightOf_4 : decode cX4_rightOf 4 = .ok (.iload_n 1, 1) := by decide +kernel
theorem dX4_rightOf_5 : decode cX4_rightOf 5 = .ok (.aload_n 0, 1) := by decide +kernel
theorem dX4_rightOf_6 : decode cX4_rightOf 6 = .ok (.getfield 21, 3) := by decide +kernel
theorem dX4_rightOf_9 : decode cX4_rightOf 9 = .ok (.iconst 1, 1) := by decide +kernel
theorem dX4_rightOf_10 : decode cX4_rightOf 10 = .ok (.isub, 1) := by decide +kernel
theorem dX4_rightOf_11 : decode cX4_rightOf 11 = .ok (.if_icmp .ge 14, 3) := by decide +kernel
theorem dX4_rightOf_14 : decode cX4_rightOf 14 = .ok (.aload_n 0, 1) := by decide +kernel
theorem dX4_rightOf_15 : decode cX4_rightOf 15 = .ok (.getfield 9, 3) := by decide +kernel
theorem dX4_rightOf_18 : decode cX4_rightOf 18 = .ok (.iload_n 1, 1) := by decide +kernel
theorem dX4_rightOf_19 : decode cX4_rightOf 19 = .ok (.iconst 1, 1) := by decide +kernel
theorem dX4_rightOf_20 : decode cX4_rightOf 20 = .ok (.iadd, 1) := by decide +kernel
theorem dX4_rightOf_21 : decode cX4_rightOf 21 = .ok (.iaload, 1) := by decide +kernel
theorem dX4_rightOf_22 : decode cX4_rightOf 22 = .ok (.goto 5, 3) := by decide +kernel
theorem dX4_rightOf_25 : decode cX4_rightOf 25 = .ok (.bipush 6, 2) := by decide +kernel
theorem dX4_rightOf_27 : decode cX4_rightOf 27 = .ok (.ireturn, 1) := by decide +kernel
theorem dX5_init_0 : decode cX5_init 0 = .ok (.aload_n 0, 1) := by decide +kernel
theorem dX5_init_1 : decode cX5_init 1 = .ok (.invokespecial 3, 3) := by decide +kernel
theorem dX5_init_4 : decode cX5_init 4 = .ok (.iload_n 1, 1) := by decide +kernel
theorem dX5_init_5 : decode cX5_init 5 = .ok (.iconst 0, 1) := by decide +kernel
theorem dX5_init_6 : decode cX5_init 6 = .ok (.invokestatic 9, 3) := by decide +kernel
theorem dX5_init_9 : decode cX5_init 9 = .ok (.istore_n 2, 1) := by decide +kernel
theorem dX5_init_10 : decode cX5_init 10 = .ok (.aload_n 0, 1) := by decide +kernel
theorem dX5_init_11 : decode cX5_init 11 = .ok (.iload_n 2, 1) := by decide +kernel
theorem dX5_init_12 : decode cX5_init 12 = .ok (.newarray .int, 2) := by decide +kernel
theorem dX5_init_14 : decode cX5_init 14 = .ok (.putfield 15, 3) := by decide +kernel
theorem dX5_init_17 : decode cX5_init 17 = .ok (.aload_n 0, 1) := by decide +kernel
theorem dX5_init_18 : decode cX5_init 18 = .ok (.iload_n 2, 1) := by decide +kernel
theorem dX5_init_19 : decode cX5_init 19 = .ok (.newarray .int, 2) := by decide +kernel
theorem dX5_init_21 : decode cX5_init 21 = .ok (.putfield 21, 3) := by decide +kernel
theorem dX5_init_24 : decode cX5_init 24 = .ok (.aload_n 0, 1) := by decide +kernel
theorem dX5_init_25 : decode cX5_init 25 = .ok (.iload_n 2, 1) := by decide +kernel
theorem dX5_init_26 : decode cX5_init 26 = .ok (.newarray .int, 2) := by decide +kernel
theorem dX5_init_28 : decode cX5_init 28 = .ok (.putfield 24, 3) := by decide +kernel
theorem dX5_init_31 : decode cX5_init 31 = .ok (.aload_n 0, 1) := by decide +kernel
theorem dX5_init_32 : decode cX5_init 32 = .ok (.iload_n 2, 1) := by decide +kernel
theorem dX5_init_33 : decode cX5_init 33 = .ok (.newarray .int, 2) := by decide +kernel
theorem dX5_init_35 : decode cX5_init 35 = .ok (.putfield 27, 3) := by decide +kernel
theorem dX5_init_38 : decode cX5_init 38 = .ok (.aload_n 0, 1) := by decide +kernel
theorem dX5_init_39 : decode cX5_init 39 = .ok (.iload_n 2, 1) := by decide +kernel
theorem dX5_init_40 : decode cX5_init 40 = .ok (.newarray .int, 2) := by decide +kernel
theorem dX5_init_42 : decode cX5_init 42 = .ok (.putfield 30, 3) := by decide +kernel
theorem dX5_init_45 : decode cX5_init 45 = .ok (.return_, 1) := by decide +kernel
theorem dX5_begin_0 : decode cX5_begin 0 = .ok (.aload_n 0, 1) := by decide +kernel
theorem dX5_begin_1 : decode cX5_begin 1 = .ok (.getfield 15, 3) := by decide +kernel
theorem dX5_begin_4 : decode cX5_begin 4 = .ok (.iload_n 1, 1) := by decide +kernel
theorem dX5_begin_5 : decode cX5_begin 5 = .ok (.ldc 33, 2) := by decide +kernel
theorem dX5_begin_7 : decode cX5_begin 7 = .ok (.iastore, 1) := by decide +kernel
theorem dX5_begin_8 : decode cX5_begin 8 = .ok (.aload_n 0, 1) := by decide +kernel
theorem dX5_begin_9 : decode cX5_begin 9 = .ok (.getfield 21, 3) := by decide +kernel
theorem dX5_begin_12 : decode cX5_begin 12 = .ok (.iload_n 1, 1) := by decide +kernel
theorem dX5_begin_13 : decode cX5_begin 13 = .ok (.ldc 33, 2) := by decide +kernel
theorem dX5_begin_15 : decode cX5_begin 15 = .ok (.iastore, 1) := by decide +kernel
theorem dX5_begin_16 : decode cX5_begin 16 = .ok (.aload_n 0, 1) := by decide +kernel
theorem dX5_begin_17 : decode cX5_begin 17 = .ok (.getfield 24, 3) := by decide +kernel
theorem dX5_begin_20 : decode cX5_begin 20 = .ok (.iload_n 1, 1) := by decide +kernel
theorem dX5_begin_21 : decode cX5_begin 21 = .ok (.iconst 0, 1) := by decide +kernel
theorem dX5_begin_22 : decode cX5_begin 22 = .ok (.iastore, 1) := by decide +kernel
theorem dX5_begin_23 : decode cX5_begin 23 = .ok (.aload_n 0, 1) := by decide +kernel
theorem dX5_begin_24 : decode cX5_begin 24 = .ok (.getfield 27, 3) := by decide +kernel
theorem dX5_begin_27 : decode cX5_begin 27 = .ok (.iload_n 1, 1) := by decide +kernel
theorem dX5_begin_28 : decode cX5_begin 28 = .ok (.iconst 0, 1) := by decide +kernel
theorem dX5_begin_29 : decode cX5_begin 29 = .ok (.iastore, 1) := by decide +kernel
theorem dX5_begin_30 : decode cX5_begin 30 = .ok (.aload_n 0, 1) := by decide +kernel
theorem dX5_begin_31 : decode cX5_begin 31 = .ok (.getfield 30, 3) := by decide +kernel
theorem dX5_begin_34 : decode cX5_begin 34 = .ok (.iload_n 1, 1) := by decide +kernel
theorem dX5_begin_35 : decode cX5_begin 35 = .ok (.iconst 0, 1) := by decide +kernel
theorem dX5_begin_36 : decode cX5_begin 36 = .ok (.iastore, 1) := by decide +kernel
theorem dX5_begin_37 : decode cX5_begin 37 = .ok (.return_, 1) := by decide +kernel
theorem dX5_end_0 : decode cX5_end 0 = .ok (.aload_n 0, 1) := by decide +kernel
theorem dX5_end_1 : decode cX5_end 1 = .ok (.iload_n 1, 1) := by decide +kernel
theorem dX5_end_2 : decode cX5_end 2 = .ok (.invokevirtual 34, 3) := by decide +kernel
theorem dX5_end_5 : decode cX5_end 5 = .ok (.aload_n 0, 1) := by decide +kernel
theorem dX5_end_6 : decode cX5_end 6 = .ok (.getfield 15, 3) := by decide +kernel
theorem dX5_end_9 : decode cX5_end 9 = .ok (.iload_n 1, 1) := by decide +kernel
theorem dX5_end_10 : decode cX5_end 10 = .ok (.iconst 0, 1) := by decide +kernel
theorem dX5_end_11 : decode cX5_end 11 = .ok (.iastore, 1) := by decide +kernel
theorem dX5_end_12 : decode cX5_end 12 = .ok (.aload_n 0, 1) := by decide +kernel
theorem dX5_end_13 : decode cX5_end 13 = .ok (.getfield 27, 3) := by decide +kernel
theorem dX5_end_16 : decode cX5_end 16 = .ok (.iload_n 1, 1) := by decide +kernel
theorem dX5_end_17 : decode cX5_end 17 = .ok (.iconst 1, 1) := by decide +kernel
theorem dX5_end_18 : decode cX5_end 18 = .ok (.iastore, 1) := by decide +kernel
theorem dX5_end_19 : decode cX5_end 19 = .ok (.return_, 1) := by decide +kernel
theorem dX5_offer_0 : decode cX5_offer 0 = .ok (.iload_n 2, 1) := by decide +kernel
theorem dX5_offer_1 : decode cX5_offer 1 = .ok (.aload_n 3, 1) := by decide +kernel
theorem dX5_offer_2 : decode cX5_offer 2 = .ok (.getfield 15, 3) := by decide +kernel
theorem dX5_offer_5 : decode cX5_offer 5 = .ok (.iload 4, 2) := by decide +kernel
theorem dX5_offer_7 : decode cX5_offer 7 = .ok (.iaload, 1) := by decide +kernel
theorem dX5_offer_8 : decode cX5_offer 8 = .ok (.iadd, 1) := by decide +kernel
theorem dX5_offer_9 : decode cX5_offer 9 = .ok (.istore 5, 2) := by decide +kernel
theorem dX5_offer_11 : decode cX5_offer 11 = .ok (.aload_n 0, 1) := by decide +kernel
theorem dX5_offer_12 : decode cX5_offer 12 = .ok (.getfield 24, 3) := by decide +kernel
theorem dX5_offer_15 : decode cX5_offer 15 = .ok (.iload_n 1, 1) := by decide +kernel
theorem dX5_offer_16 : decode cX5_offer 16 = .ok (.aload_n 0, 1) := by decide +kernel
theorem dX5_offer_17 : decode cX5_offer 17 = .ok (.getfield 24, 3) := by decide +kernel
theorem dX5_offer_20 : decode cX5_offer 20 = .ok (.iload_n 1, 1) := by decide +kernel
theorem dX5_offer_21 : decode cX5_offer 21 = .ok (.iaload, 1) := by decide +kernel
theorem dX5_offer_22 : decode cX5_offer 22 = .ok (.iload_n 2, 1) := by decide +kernel
theorem dX5_offer_23 : decode cX5_offer 23 = .ok (.aload_n 3, 1) := by decide +kernel
theorem dX5_offer_24 : decode cX5_offer 24 = .ok (.getfield 24, 3) := by decide +kernel
theorem dX5_offer_27 : decode cX5_offer 27 = .ok (.iload 4, 2) := by decide +kernel
theorem dX5_offer_29 : decode cX5_offer 29 = .ok (.iaload, 1) := by decide +kernel
theorem dX5_offer_30 : decode cX5_offer 30 = .ok (.iadd, 1) := by decide +kernel
theorem dX5_offer_31 : decode cX5_offer 31 = .ok (.invokestatic 9, 3) := by decide +kernel
theorem dX5_offer_34 : decode cX5_offer 34 = .ok (.iastore, 1) := by decide +kernel
theorem dX5_offer_35 : decode cX5_offer 35 = .ok (.iload 5, 2) := by decide +kernel
theorem dX5_offer_37 : decode cX5_offer 37 = .ok (.aload_n 0, 1) := by decide +kernel
theorem dX5_offer_38 : decode cX5_offer 38 = .ok (.getfield 15, 3) := by decide +kernel
theorem dX5_offer_41 : decode cX5_offer 41 = .ok (.iload_n 1, 1) := by decide +kernel
theorem dX5_offer_42 : decode cX5_offer 42 = .ok (.iaload, 1) := by decide +kernel
theorem dX5_offer_43 : decode cX5_offer 43 = .ok (.if_icmp .ge 57, 3) := by decide +kernel
theorem dX5_offer_46 : decode cX5_offer 46 = .ok (.aload_n 0, 1) := by decide +kernel
theorem dX5_offer_47 : decode cX5_offer 47 = .ok (.getfield 21, 3) := by decide +kernel
theorem dX5_offer_50 : decode cX5_offer 50 = .ok (.iload_n 1, 1) := by decide +kernel
theorem dX5_offer_51 : decode cX5_offer 51 = .ok (.aload_n 0, 1) := by decide +kernel
theorem dX5_offer_52 : decode cX5_offer 52 = .ok (.getfield 15, 3) := by decide +kernel
theorem dX5_offer_55 : decode cX5_offer 55 = .ok (.iload_n 1, 1) := by decide +kernel
theorem dX5_offer_56 : decode cX5_offer 56 = .ok (.iaload, 1) := by decide +kernel
theorem dX5_offer_57 : decode cX5_offer 57 = .ok (.iload_n 2, 1) := by decide +kernel
theorem dX5_offer_58 : decode cX5_offer 58 = .ok (.aload_n 3, 1) := by decide +kernel
theorem dX5_offer_59 : decode cX5_offer 59 = .ok (.getfield 21, 3) := by decide +kernel
theorem dX5_offer_62 : decode cX5_offer 62 = .ok (.iload 4, 2) := by decide +kernel
theorem dX5_offer_64 : decode cX5_offer 64 = .ok (.iaload, 1) := by decide +kernel
theorem dX5_offer_65 : decode cX5_offer 65 = .ok (.iadd, 1) := by decide +kernel
theorem dX5_offer_66 : decode cX5_offer 66 = .ok (.invokestatic 38, 3) := by decide +kernel
theorem dX5_offer_69 : decode cX5_offer 69 = .ok (.iastore, 1) := by decide +kernel
theorem dX5_offer_70 : decode cX5_offer 70 = .ok (.aload_n 0, 1) := by decide +kernel
theorem dX5_offer_71 : decode cX5_offer 71 = .ok (.getfield 15, 3) := by decide +kernel
theorem dX5_offer_74 : decode cX5_offer 74 = .ok (.iload_n 1, 1) := by decide +kernel
theorem dX5_offer_75 : decode cX5_offer 75 = .ok (.iload 5, 2) := by decide +kernel
theorem dX5_offer_77 : decode cX5_offer 77 = .ok (.iastore, 1) := by decide +kernel
theorem dX5_offer_78 : decode cX5_offer 78 = .ok (.aload_n 0, 1) := by decide +kernel
theorem dX5_offer_79 : decode cX5_offer 79 = .ok (.getfield 27, 3) := by decide +kernel
theorem dX5_offer_82 : decode cX5_offer 82 = .ok (.iload_n 1, 1) := by decide +kernel
theorem dX5_offer_83 : decode cX5_offer 83 = .ok (.aload_n 3, 1) := by decide +kernel
theorem dX5_offer_84 : decode cX5_offer 84 = .ok (.getfield 27, 3) := by decide +kernel
theorem dX5_offer_87 : decode cX5_offer 87 = .ok (.iload 4, 2) := by decide +kernel
theorem dX5_offer_89 : decode cX5_offer 89 = .ok (.iaload, 1) := by decide +kernel
theorem dX5_offer_90 : decode cX5_offer 90 = .ok (.iastore, 1) := by decide +kernel
theorem dX5_offer_91 : decode cX5_offer 91 = .ok (.aload_n 0, 1) := by decide +kernel
theorem dX5_offer_92 : decode cX5_offer 92 = .ok (.getfield 30, 3) := by decide +kernel
theorem dX5_offer_95 : decode cX5_offer 95 = .ok (.iload_n 1, 1) := by decide +kernel
theorem dX5_offer_96 : decode cX5_offer 96 = .ok (.iload 4, 2) := by decide +kernel
theorem dX5_offer_98 : decode cX5_offer 98 = .ok (.iastore, 1) := by decide +kernel
theorem dX5_offer_99 : decode cX5_offer 99 = .ok (.return_, 1) := by decide +kernel
theorem dX5_offer_100 : decode cX5_offer 100 = .ok (.aload_n 0, 1) := by decide +kernel
theorem dX5_offer_101 : decode cX5_offer 101 = .ok (.getfield 21, 3) := by decide +kernel
theorem dX5_offer_104 : decode cX5_offer 104 = .ok (.iload_n 1, 1) := by decide +kernel
theorem dX5_offer_105 : decode cX5_offer 105 = .ok (.aload_n 0, 1) := by decide +kernel
theorem dX5_offer_106 : decode cX5_offer 106 = .ok (.getfield 21, 3) := by decide +kernel
theorem dX5_offer_109 : decode cX5_offer 109 = .ok (.iload_n 1, 1) := by decide +kernel
theorem dX5_offer_110 : decode cX5_offer 110 = .ok (.iaload, 1) := by decide +kernel
theorem dX5_offer_111 : decode cX5_offer 111 = .ok (.iload 5, 2) := by decide +kernel
theorem dX5_offer_113 : decode cX5_offer 113 = .ok (.invokestatic 38, 3) := by decide +kernel
theorem dX5_offer_116 : decode cX5_offer 116 = .ok (.iastore, 1) := by decide +kernel
theorem dX5_offer_117 : decode cX5_offer 117 = .ok (.iload 5, 2) := by decide +kernel
theorem dX5_offer_119 : decode cX5_offer 119 = .ok (.aload_n 0, 1) := by decide +kernel
theorem dX5_offer_120 : decode cX5_offer 120 = .ok (.getfield 15, 3) := by decide +kernel
theorem dX5_offer_123 : decode cX5_offer 123 = .ok (.iload_n 1, 1) := by decide +kernel
theorem dX5_offer_124 : decode cX5_offer 124 = .ok (.iaload, 1) := by decide +kernel
theorem dX5_offer_125 : decode cX5_offer 125 = .ok (.if_icmp .ne 28, 3) := by decide +kernel
theorem dX5_offer_128 : decode cX5_offer 128 = .ok (.aload_n 0, 1) := by decide +kernel
theorem dX5_offer_129 : decode cX5_offer 129 = .ok (.getfield 27, 3) := by decide +kernel
theorem dX5_offer_132 : decode cX5_offer 132 = .ok (.iload_n 1, 1) := by decide +kernel
theorem dX5_offer_133 : decode cX5_offer 133 = .ok (.ldc 41, 2) := by decide +kernel
theorem dX5_offer_135 : decode cX5_offer 135 = .ok (.aload_n 0, 1) := by decide +kernel
theorem dX5_offer_136 : decode cX5_offer 136 = .ok (.getfield 27, 3) := by decide +kernel
theorem dX5_offer_139 : decode cX5_offer 139 = .ok (.iload_n 1, 1) := by decide +kernel
theorem dX5_offer_140 : decode cX5_offer 140 = .ok (.iaload, 1) := by decide +kernel
theorem dX5_offer_141 : decode cX5_offer 141 = .ok (.aload_n 3, 1) := by decide +kernel
theorem dX5_offer_142 : decode cX5_offer 142 = .ok (.getfield 27, 3) := by decide +kernel
theorem dX5_offer_145 : decode cX5_offer 145 = .ok (.iload 4, 2) := by decide +kernel
theorem dX5_offer_147 : decode cX5_offer 147 = .ok (.iaload, 1) := by decide +kernel
theorem dX5_offer_148 : decode cX5_offer 148 = .ok (.iadd, 1) := by decide +kernel
theorem dX5_offer_149 : decode cX5_offer 149 = .ok (.invokestatic 38, 3) := by decide +kernel
theorem dX5_offer_152 : decode cX5_offer 152 = .ok (.iastore, 1) := by decide +kernel
theorem dX5_offer_153 : decode cX5_offer 153 = .ok (.return_, 1) := by decide +kernel
theorem dX6_init_0 : decode cX6_init 0 = .ok (.aload_n 0, 1) := by decide +kernel
theorem dX6_init_1 : decode cX6_init 1 = .ok (.invokespecial 3, 3) := by decide +kernel
theorem dX6_init_4 : decode cX6_init 4 = .ok (.aload_n 0, 1) := by decide +kernel
theorem dX6_init_5 : decode cX6_init 5 = .ok (.bipush 120, 2) := by decide +kernel
theorem dX6_init_7 : decode cX6_init 7 = .ok (.newarray .int, 2) := by decide +kernel
theorem dX6_init_9 : decode cX6_init 9 = .ok (.putfield 9, 3) := by decide +kernel
theorem dX6_init_12 : decode cX6_init 12 = .ok (.aload_n 0, 1) := by decide +kernel
theorem dX6_init_13 : decode cX6_init 13 = .ok (.new 15, 3) := by decide +kernel
theorem dX6_init_16 : decode cX6_init 16 = .ok (.dup, 1) := by decide +kernel
theorem dX6_init_17 : decode cX6_init 17 = .ok (.invokespecial 17, 3) := by decide +kernel
theorem dX6_init_20 : decode cX6_init 20 = .ok (.putfield 18, 3) := by decide +kernel
theorem dX6_init_23 : decode cX6_init 23 = .ok (.aload_n 0, 1) := by decide +kernel
theorem dX6_init_24 : decode cX6_init 24 = .ok (.new 22, 3) := by decide +kernel
theorem dX6_init_27 : decode cX6_init 27 = .ok (.dup, 1) := by decide +kernel
theorem dX6_init_28 : decode cX6_init 28 = .ok (.invokespecial 24, 3) := by decide +kernel
theorem dX6_init_31 : decode cX6_init 31 = .ok (.putfield 25, 3) := by decide +kernel
theorem dX6_init_34 : decode cX6_init 34 = .ok (.return_, 1) := by decide +kernel
theorem dX6_add_0 : decode cX6_add 0 = .ok (.aload_n 0, 1) := by decide +kernel
theorem dX6_add_1 : decode cX6_add 1 = .ok (.getfield 29, 3) := by decide +kernel
theorem dX6_add_4 : decode cX6_add 4 = .ok (.ifCond .lt 32, 3) := by decide +kernel
theorem dX6_add_7 : decode cX6_add 7 = .ok (.aload_n 0, 1) := by decide +kernel
theorem dX6_add_8 : decode cX6_add 8 = .ok (.getfield 29, 3) := by decide +kernel
theorem dX6_add_11 : decode cX6_add 11 = .ok (.bipush 120, 2) := by decide +kernel
theorem dX6_add_13 : decode cX6_add 13 = .ok (.if_icmp .ge 23, 3) := by decide +kernel
theorem dX6_add_16 : decode cX6_add 16 = .ok (.aload_n 0, 1) := by decide +kernel
theorem dX6_add_17 : decode cX6_add 17 = .ok (.getfield 9, 3) := by decide +kernel
theorem dX6_add_20 : decode cX6_add 20 = .ok (.aload_n 0, 1) := by decide +kernel
theorem dX6_add_21 : decode cX6_add 21 = .ok (.getfield 29, 3) := by decide +kernel
theorem dX6_add_24 : decode cX6_add 24 = .ok (.iload_n 1, 1) := by decide +kernel
theorem dX6_add_25 : decode cX6_add 25 = .ok (.iastore, 1) := by decide +kernel
theorem dX6_add_26 : decode cX6_add 26 = .ok (.aload_n 0, 1) := by decide +kernel
theorem dX6_add_27 : decode cX6_add 27 = .ok (.dup, 1) := by decide +kernel
theorem dX6_add_28 : decode cX6_add 28 = .ok (.getfield 29, 3) := by decide +kernel
theorem dX6_add_31 : decode cX6_add 31 = .ok (.iconst 1, 1) := by decide +kernel
theorem dX6_add_32 : decode cX6_add 32 = .ok (.iadd, 1) := by decide +kernel
theorem dX6_add_33 : decode cX6_add 33 = .ok (.putfield 29, 3) := by decide +kernel
theorem dX6_add_36 : decode cX6_add 36 = .ok (.return_, 1) := by decide +kernel
theorem dX6_read_0 : decode cX6_read 0 = .ok (.aload_n 0, 1) := by decide +kernel
theorem dX6_read_1 : decode cX6_read 1 = .ok (.iconst 0, 1) := by decide +kernel
theorem dX6_read_2 : decode cX6_read 2 = .ok (.putfield 33, 3) := by decide +kernel
theorem dX6_read_5 : decode cX6_read 5 = .ok (.aload_n 0, 1) := by decide +kernel
theorem dX6_read_6 : decode cX6_read 6 = .ok (.iconst (-1), 1) := by decide +kernel
theorem dX6_read_7 : decode cX6_read 7 = .ok (.putfield 36, 3) := by decide +kernel
theorem dX6_read_10 : decode cX6_read 10 = .ok (.aload_n 0, 1) := by decide +kernel
theorem dX6_read_11 : decode cX6_read 11 = .ok (.getfield 18, 3) := by decide +kernel
theorem dX6_read_14 : decode cX6_read 14 = .ok (.iconst 0, 1) := by decide +kernel
theorem dX6_read_15 : decode cX6_read 15 = .ok (.putfield 39, 3) := by decide +kernel
theorem dX6_read_18 : decode cX6_read 18 = .ok (.aload_n 0, 1) := by decide +kernel
theorem dX6_read_19 : decode cX6_read 19 = .ok (.getfield 25, 3) := by decide +kernel
theorem dX6_read_22 : decode cX6_read 22 = .ok (.invokevirtual 40, 3) := by decide +kernel
theorem dX6_read_25 : decode cX6_read 25 = .ok (.aload_n 0, 1) := by decide +kernel
theorem dX6_read_26 : decode cX6_read 26 = .ok (.invokevirtual 43, 3) := by decide +kernel
theorem dX6_read_29 : decode cX6_read 29 = .ok (.istore_n 1, 1) := by decide +kernel
theorem dX6_read_30 : decode cX6_read 30 = .ok (.aload_n 0, 1) := by decide +kernel
theorem dX6_read_31 : decode cX6_read 31 = .ok (.iload_n 1, 1) := by decide +kernel
theorem dX6_read_32 : decode cX6_read 32 = .ok (.bipush 114, 2) := by decide +kernel
theorem dX6_read_34 : decode cX6_read 34 = .ok (.if_icmp .ne 7, 3) := by decide +kernel
theorem dX6_read_37 : decode cX6_read 37 = .ok (.iconst 1, 1) := by decide +kernel
theorem dX6_read_38 : decode cX6_read 38 = .ok (.goto 4, 3) := by decide +kernel
theorem dX6_read_41 : decode cX6_read 41 = .ok (.iconst 0, 1) := by decide +kernel
theorem dX6_read_42 : decode cX6_read 42 = .ok (.putfield 47, 3) := by decide +kernel
theorem dX6_read_45 : decode cX6_read 45 = .ok (.iload_n 1, 1) := by decide +kernel
theorem dX6_read_46 : decode cX6_read 46 = .ok (.bipush 114, 2) := by decide +kernel
theorem dX6_read_48 : decode cX6_read 48 = .ok (.if_icmp .ne 10, 3) := by decide +kernel
theorem dX6_read_51 : decode cX6_read 51 = .ok (.aload_n 0, 1) := by decide +kernel
theorem dX6_read_52 : decode cX6_read 52 = .ok (.invokevirtual 51, 3) := by decide +kernel
theorem dX6_read_55 : decode cX6_read 55 = .ok (.goto 21, 3) := by decide +kernel
theorem dX6_read_58 : decode cX6_read 58 = .ok (.iload_n 1, 1) := by decide +kernel
theorem dX6_read_59 : decode cX6_read 59 = .ok (.bipush 116, 2) := by decide +kernel
theorem dX6_read_61 : decode cX6_read 61 = .ok (.if_icmp .ne 10, 3) := by decide +kernel
theorem dX6_read_64 : decode cX6_read 64 = .ok (.aload_n 0, 1) := by decide +kernel
theorem dX6_read_65 : decode cX6_read 65 = .ok (.invokevirtual 54, 3) := by decide +kernel
theorem dX6_read_68 : decode cX6_read 68 = .ok (.goto 8, 3) := by decide +kernel
theorem dX6_read_71 : decode cX6_read 71 = .ok (.aload_n 0, 1) := by decide +kernel
theorem dX6_read_72 : decode cX6_read 72 = .ok (.invokevirtual 57, 3) := by decide +kernel
theorem dX6_read_75 : decode cX6_read 75 = .ok (.pop, 1) := by decide +kernel
theorem dX6_read_76 : decode cX6_read 76 = .ok (.aload_n 0, 1) := by decide +kernel
theorem dX6_read_77 : decode cX6_read 77 = .ok (.getfield 36, 3) := by decide +kernel
theorem dX6_read_80 : decode cX6_read 80 = .ok (.iconst (-1), 1) := by decide +kernel
theorem dX6_read_81 : decode cX6_read 81 = .ok (.if_icmp .ne 7, 3) := by decide +kernel
theorem dX6_read_84 : decode cX6_read 84 = .ok (.aload_n 0, 1) := by decide +kernel
theorem dX6_read_85 : decode cX6_read 85 = .ok (.invokevirtual 60, 3) := by decide +kernel
theorem dX6_read_88 : decode cX6_read 88 = .ok (.aload_n 0, 1) := by decide +kernel
theorem dX6_read_89 : decode cX6_read 89 = .ok (.getfield 36, 3) := by decide +kernel
theorem dX6_read_92 : decode cX6_read 92 = .ok (.ireturn, 1) := by decide +kernel
theorem dX6_readRow_0 : decode cX6_readRow 0 = .ok (.aload_n 0, 1) := by decide +kernel
theorem dX6_readRow_1 : decode cX6_readRow 1 = .ok (.ldc 63, 2) := by decide +kernel
theorem dX6_readRow_3 : decode cX6_readRow 3 = .ok (.invokevirtual 64, 3) := by decide +kernel
theorem dX6_readRow_6 : decode cX6_readRow 6 = .ok (.ifCond .ne 4, 3) := by decide +kernel
theorem dX6_readRow_9 : decode cX6_readRow 9 = .ok (.return_, 1) := by decide +kernel
theorem dX6_readRow_10 : decode cX6_readRow 10 = .ok (.iconst 0, 1) := by decide +kernel
theorem dX6_readRow_11 : decode cX6_readRow 11 = .ok (.istore_n 1, 1) := by decide +kernel
theorem dX6_readRow_12 : decode cX6_readRow 12 = .ok (.iload_n 1, 1) := by decide +kernel
theorem dX6_readRow_13 : decode cX6_readRow 13 = .ok (.bipush 8, 2) := by decide +kernel
theorem dX6_readRow_15 : decode cX6_readRow 15 = .ok (.if_icmp .ge 60, 3) := by decide +kernel
theorem dX6_readRow_18 : decode cX6_readRow 18 = .ok (.aload_n 0, 1) := by decide +kernel
theorem dX6_readRow_19 : decode cX6_readRow 19 = .ok (.getfield 36, 3) := by decide +kernel
theorem dX6_readRow_22 : decode cX6_readRow 22 = .ok (.iconst (-1), 1) := by decide +kernel
theorem dX6_readRow_23 : decode cX6_readRow 23 = .ok (.if_icmp .ne 52, 3) := by decide +kernel
theorem dX6_readRow_26 : decode cX6_readRow 26 = .ok (.aload_n 0, 1) := by decide +kernel
theorem dX6_readRow_27 : decode cX6_readRow 27 = .ok (.invokevirtual 43, 3) := by decide +kernel
theorem dX6_readRow_30 : decode cX6_readRow 30 = .ok (.istore_n 2, 1) := by decide +kernel
theorem dX6_readRow_31 : decode cX6_readRow 31 = .ok (.iload_n 2, 1) := by decide +kernel
theorem dX6_readRow_32 : decode cX6_readRow 32 = .ok (.bipush 59, 2) := by decide +kernel
theorem dX6_readRow_34 : decode cX6_readRow 34 = .ok (.if_icmp .ne 8, 3) := by decide +kernel
theorem dX6_readRow_37 : decode cX6_readRow 37 = .ok (.iload_n 1, 1) := by decide +kernel
theorem dX6_readRow_38 : decode cX6_readRow 38 = .ok (.ifCond .le 4, 3) := by decide +kernel
theorem dX6_readRow_41 : decode cX6_readRow 41 = .ok (.return_, 1) := by decide +kernel
theorem dX6_readRow_42 : decode cX6_readRow 42 = .ok (.iload_n 2, 1) := by decide +kernel
theorem dX6_readRow_43 : decode cX6_readRow 43 = .ok (.bipush 97, 2) := by decide +kernel
theorem dX6_readRow_45 : decode cX6_readRow 45 = .ok (.bipush 102, 2) := by decide +kernel
theorem dX6_readRow_47 : decode cX6_readRow 47 = .ok (.invokestatic 68, 3) := by decide +kernel
theorem dX6_readRow_50 : decode cX6_readRow 50 = .ok (.ifCond .ne 11, 3) := by decide +kernel
theorem dX6_readRow_53 : decode cX6_readRow 53 = .ok (.aload_n 0, 1) := by decide +kernel
theorem dX6_readRow_54 : decode cX6_readRow 54 = .ok (.invokevirtual 57, 3) := by decide +kernel
theorem dX6_readRow_57 : decode cX6_readRow 57 = .ok (.pop, 1) := by decide +kernel
theorem dX6_readRow_58 : decode cX6_readRow 58 = .ok (.goto 11, 3) := by decide +kernel
theorem dX6_readRow_61 : decode cX6_readRow 61 = .ok (.aload_n 0, 1) := by decide +kernel
theorem dX6_readRow_62 : decode cX6_readRow 62 = .ok (.iload_n 2, 1) := by decide +kernel
theorem dX6_readRow_63 : decode cX6_readRow 63 = .ok (.bipush 97, 2) := by decide +kernel
theorem dX6_readRow_65 : decode cX6_readRow 65 = .ok (.isub, 1) := by decide +kernel
theorem dX6_readRow_66 : decode cX6_readRow 66 = .ok (.invokevirtual 72, 3) := by decide +kernel
theorem dX6_readRow_69 : decode cX6_readRow 69 = .ok (.iinc 1 1, 3) := by decide +kernel
theorem dX6_readRow_72 : decode cX6_readRow 72 = .ok (.goto (-60), 3) := by decide +kernel
theorem dX6_readRow_75 : decode cX6_readRow 75 = .ok (.return_, 1) := by decide +kernel
theorem dX6_readTarget_0 : decode cX6_readTarget 0 = .ok (.aload_n 0, 1) := by decide +kernel
theorem dX6_readTarget_1 : decode cX6_readTarget 1 = .ok (.dup, 1) := by decide +kernel
theorem dX6_readTarget_2 : decode cX6_readTarget 2 = .ok (.getfield 33, 3) := by decide +kernel
theorem dX6_readTarget_5 : decode cX6_readTarget 5 = .ok (.iconst 1, 1) := by decide +kernel
theorem dX6_readTarget_6 : decode cX6_readTarget 6 = .ok (.iadd, 1) := by decide +kernel
theorem dX6_readTarget_7 : decode cX6_readTarget 7 = .ok (.putfield 33, 3) := by decide +kernel
theorem dX6_readTarget_10 : decode cX6_readTarget 10 = .ok (.aload_n 0, 1) := by decide +kernel
theorem dX6_readTarget_11 : decode cX6_readTarget 11 = .ok (.iconst 0, 1) := by decide +kernel
theorem dX6_readTarget_12 : decode cX6_readTarget 12 = .ok (.bipush 9, 2) := by decide +kernel
theorem dX6_readTarget_14 : decode cX6_readTarget 14 = .ok (.invokevirtual 76, 3) := by decide +kernel
theorem dX6_readTarget_17 : decode cX6_readTarget 17 = .ok (.istore_n 2, 1) := by decide +kernel
theorem dX6_readTarget_18 : decode cX6_readTarget 18 = .ok (.aload_n 0, 1) := by decide +kernel
theorem dX6_readTarget_19 : decode cX6_readTarget 19 = .ok (.getfield 36, 3) := by decide +kernel
theorem dX6_readTarget_22 : decode cX6_readTarget 22 = .ok (.iconst (-1), 1) := by decide +kernel
theorem dX6_readTarget_23 : decode cX6_readTarget 23 = .ok (.if_icmp .eq 4, 3) := by decide +kernel
theorem dX6_readTarget_26 : decode cX6_readTarget 26 = .ok (.return_, 1) := by decide +kernel
theorem dX6_readTarget_27 : decode cX6_readTarget 27 = .ok (.aload_n 0, 1) := by decide +kernel
theorem dX6_readTarget_28 : decode cX6_readTarget 28 = .ok (.iconst 1, 1) := by decide +kernel
theorem dX6_readTarget_29 : decode cX6_readTarget 29 = .ok (.bipush 9, 2) := by decide +kernel
theorem dX6_readTarget_31 : decode cX6_readTarget 31 = .ok (.invokevirtual 76, 3) := by decide +kernel
theorem dX6_readTarget_34 : decode cX6_readTarget 34 = .ok (.istore_n 3, 1) := by decide +kernel
theorem dX6_readTarget_35 : decode cX6_readTarget 35 = .ok (.aload_n 0, 1) := by decide +kernel
theorem dX6_readTarget_36 : decode cX6_readTarget 36 = .ok (.getfield 36, 3) := by decide +kernel
theorem dX6_readTarget_39 : decode cX6_readTarget 39 = .ok (.iconst (-1), 1) := by decide +kernel
theorem dX6_readTarget_40 : decode cX6_readTarget 40 = .ok (.if_icmp .ne 13, 3) := by decide +kernel
theorem dX6_readTarget_43 : decode cX6_readTarget 43 = .ok (.aload_n 0, 1) := by decide +kernel
theorem dX6_readTarget_44 : decode cX6_readTarget 44 = .ok (.getfield 18, 3) := by decide +kernel
theorem dX6_readTarget_47 : decode cX6_readTarget 47 = .ok (.iload_n 1, 1) := by decide +kernel
theorem dX6_readTarget_48 : decode cX6_readTarget 48 = .ok (.iload_n 2, 1) := by decide +kernel
theorem dX6_readTarget_49 : decode cX6_readTarget 49 = .ok (.iload_n 3, 1) := by decide +kernel
theorem dX6_readTarget_50 : decode cX6_readTarget 50 = .ok (.invokevirtual 80, 3) := by decide +kernel
theorem dX6_readTarget_53 : decode cX6_readTarget 53 = .ok (.return_, 1) := by decide +kernel
theorem dX6_readTree_0 : decode cX6_readTree 0 = .ok (.aload_n 0, 1) := by decide +kernel
theorem dX6_readTree_1 : decode cX6_readTree 1 = .ok (.ldc 84, 2) := by decide +kernel
theorem dX6_readTree_3 : decode cX6_readTree 3 = .ok (.invokevirtual 64, 3) := by decide +kernel
theorem dX6_readTree_6 : decode cX6_readTree 6 = .ok (.ifCond .eq 10, 3) := by decide +kernel
theorem dX6_readTree_9 : decode cX6_readTree 9 = .ok (.aload_n 0, 1) := by decide +kernel
theorem dX6_readTree_10 : decode cX6_readTree 10 = .ok (.iconst (-1), 1) := by decide +kernel
theorem dX6_readTree_11 : decode cX6_readTree 11 = .ok (.iconst 0, 1) := by decide +kernel
theorem dX6_readTree_12 : decode cX6_readTree 12 = .ok (.invokevirtual 85, 3) := by decide +kernel
theorem dX6_readTree_15 : decode cX6_readTree 15 = .ok (.pop, 1) := by decide +kernel
theorem dX6_readTree_16 : decode cX6_readTree 16 = .ok (.return_, 1) := by decide +kernel
theorem dX6_readNode_0 : decode cX6_readNode 0 = .ok (.aload_n 0, 1) := by decide +kernel
theorem dX6_readNode_1 : decode cX6_readNode 1 = .ok (.invokevirtual 43, 3) := by decide +kernel
theorem dX6_readNode_4 : decode cX6_readNode 4 = .ok (.istore_n 3, 1) := by decide +kernel
theorem dX6_readNode_5 : decode cX6_readNode 5 = .ok (.iload_n 3, 1) := by decide +kernel
theorem dX6_readNode_6 : decode cX6_readNode 6 = .ok (.bipush 42, 2) := by decide +kernel
theorem dX6_readNode_8 : decode cX6_readNode 8 = .ok (.if_icmp .ne 22, 3) := by decide +kernel
theorem dX6_readNode_11 : decode cX6_readNode 11 = .ok (.aload_n 0, 1) := by decide +kernel
theorem dX6_readNode_12 : decode cX6_readNode 12 = .ok (.dup, 1) := by decide +kernel
theorem dX6_readNode_13 : decode cX6_readNode 13 = .ok (.getfield 33, 3) := by decide +kernel
theorem dX6_readNode_16 : decode cX6_readNode 16 = .ok (.iconst 1, 1) := by decide +kernel
theorem dX6_readNode_17 : decode cX6_readNode 17 = .ok (.iadd, 1) := by decide +kernel
theorem dX6_readNode_18 : decode cX6_readNode 18 = .ok (.putfield 33, 3) := by decide +kernel
theorem dX6_readNode_21 : decode cX6_readNode 21 = .ok (.aload_n 0, 1) := by decide +kernel
theorem dX6_readNode_22 : decode cX6_readNode 22 = .ok (.getfield 25, 3) := by decide +kernel
theorem dX6_readNode_25 : decode cX6_readNode 25 = .ok (.iload_n 1, 1) := by decide +kernel
theorem dX6_readNode_26 : decode cX6_readNode 26 = .ok (.invokevirtual 88, 3) := by decide +kernel
theorem dX6_readNode_29 : decode cX6_readNode 29 = .ok (.ireturn, 1) := by decide +kernel
theorem dX6_readNode_30 : decode cX6_readNode 30 = .ok (.iload_n 3, 1) := by decide +kernel
theorem dX6_readNode_31 : decode cX6_readNode 31 = .ok (.invokestatic 92, 3) := by decide +kernel
theorem dX6_readNode_34 : decode cX6_readNode 34 = .ok (.ifCond .eq 9, 3) := by decide +kernel
theorem dX6_readNode_37 : decode cX6_readNode 37 = .ok (.iload_n 2, 1) := by decide +kernel
theorem dX6_readNode_38 : decode cX6_readNode 38 = .ok (.bipush 7, 2) := by decide +kernel
theorem dX6_readNode_40 : decode cX6_readNode 40 = .ok (.if_icmp .lt 8, 3) := by decide +kernel
theorem dX6_readNode_43 : decode cX6_readNode 43 = .ok (.aload_n 0, 1) := by decide +kernel
theorem dX6_readNode_44 : decode cX6_readNode 44 = .ok (.invokevirtual 57, 3) := by decide +kernel
theorem dX6_readNode_47 : decode cX6_readNode 47 = .ok (.ireturn, 1) := by decide +kernel
theorem dX6_readNode_48 : decode cX6_readNode 48 = .ok (.aload_n 0, 1) := by decide +kernel
theorem dX6_readNode_49 : decode cX6_readNode 49 = .ok (.dup, 1) := by decide +kernel
theorem dX6_readNode_50 : decode cX6_readNode 50 = .ok (.getfield 33, 3) := by decide +kernel
theorem dX6_readNode_53 : decode cX6_readNode 53 = .ok (.iconst 1, 1) := by decide +kernel
theorem dX6_readNode_54 : decode cX6_readNode 54 = .ok (.iadd, 1) := by decide +kernel
theorem dX6_readNode_55 : decode cX6_readNode 55 = .ok (.putfield 33, 3) := by decide +kernel
theorem dX6_readNode_58 : decode cX6_readNode 58 = .ok (.aload_n 0, 1) := by decide +kernel
theorem dX6_readNode_59 : decode cX6_readNode 59 = .ok (.iconst 0, 1) := by decide +kernel
theorem dX6_readNode_60 : decode cX6_readNode 60 = .ok (.iload_n 3, 1) := by decide +kernel
theorem dX6_readNode_61 : decode cX6_readNode 61 = .ok (.bipush 76, 2) := by decide +kernel
theorem dX6_readNode_63 : decode cX6_readNode 63 = .ok (.if_icmp .eq 9, 3) := by decide +kernel
theorem dX6_readNode_66 : decode cX6_readNode 66 = .ok (.iload_n 3, 1) := by decide +kernel
theorem dX6_readNode_67 : decode cX6_readNode 67 = .ok (.bipush 82, 2) := by decide +kernel
theorem dX6_readNode_69 : decode cX6_readNode 69 = .ok (.if_icmp .ne 8, 3) := by decide +kernel
theorem dX6_readNode_72 : decode cX6_readNode 72 = .ok (.bipush 6, 2) := by decide +kernel
theorem dX6_readNode_74 : decode cX6_readNode 74 = .ok (.goto 5, 3) := by decide +kernel
theorem dX6_readNode_77 : decode cX6_readNode 77 = .ok (.bipush 9, 2) := by decide +kernel
theorem dX6_readNode_79 : decode cX6_readNode 79 = .ok (.invokevirtual 76, 3) := by decide +kernel
theorem dX6_readNode_82 : decode cX6_readNode 82 = .ok (.istore 4, 2) := by decide +kernel
theorem dX6_readNode_84 : decode cX6_readNode 84 = .ok (.aload_n 0, 1) := by decide +kernel
theorem dX6_readNode_85 : decode cX6_readNode 85 = .ok (.getfield 36, 3) := by decide +kernel
theorem dX6_readNode_88 : decode cX6_readNode 88 = .ok (.iconst (-1), 1) := by decide +kernel
theorem dX6_readNode_89 : decode cX6_readNode 89 = .ok (.if_icmp .eq 5, 3) := by decide +kernel
theorem dX6_readNode_92 : decode cX6_readNode 92 = .ok (.iconst (-1), 1) := by decide +kernel
theorem dX6_readNode_93 : decode cX6_readNode 93 = .ok (.ireturn, 1) := by decide +kernel
theorem dX6_readNode_94 : decode cX6_readNode 94 = .ok (.aload_n 0, 1) := by decide +kernel
theorem dX6_readNode_95 : decode cX6_readNode 95 = .ok (.getfield 25, 3) := by decide +kernel
theorem dX6_readNode_98 : decode cX6_readNode 98 = .ok (.iload_n 3, 1) := by decide +kernel
theorem dX6_readNode_99 : decode cX6_readNode 99 = .ok (.iload 4, 2) := by decide +kernel
theorem dX6_readNode_101 : decode cX6_readNode 101 = .ok (.iload_n 1, 1) := by decide +kernel
theorem dX6_readNode_102 : decode cX6_readNode 102 = .ok (.iload_n 2, 1) := by decide +kernel
theorem dX6_readNode_103 : decode cX6_readNode 103 = .ok (.iconst 1, 1) := by decide +kernel
theorem dX6_readNode_104 : decode cX6_readNode 104 = .ok (.iadd, 1) := by decide +kernel
theorem dX6_readNode_105 : decode cX6_readNode 105 = .ok (.invokevirtual 96, 3) := by decide +kernel
theorem dX6_readNode_108 : decode cX6_readNode 108 = .ok (.istore 5, 2) := by decide +kernel
theorem dX6_readNode_110 : decode cX6_readNode 110 = .ok (.aload_n 0, 1) := by decide +kernel
theorem dX6_readNode_111 : decode cX6_readNode 111 = .ok (.iload 5, 2) := by decide +kernel
theorem dX6_readNode_113 : decode cX6_readNode 113 = .ok (.iload_n 2, 1) := by decide +kernel
theorem dX6_readNode_114 : decode cX6_readNode 114 = .ok (.iconst 1, 1) := by decide +kernel
theorem dX6_readNode_115 : decode cX6_readNode 115 = .ok (.iadd, 1) := by decide +kernel
theorem dX6_readNode_116 : decode cX6_readNode 116 = .ok (.invokevirtual 100, 3) := by decide +kernel
theorem dX6_readNode_119 : decode cX6_readNode 119 = .ok (.ireturn, 1) := by decide +kernel
theorem dX6_readBranches_0 : decode cX6_readBranches 0 = .ok (.aload_n 0, 1) := by decide +kernel
theorem dX6_readBranches_1 : decode cX6_readBranches 1 = .ok (.bipush 40, 2) := by decide +kernel
theorem dX6_readBranches_3 : decode cX6_readBranches 3 = .ok (.invokevirtual 103, 3) := by decide +kernel
theorem dX6_readBranches_6 : decode cX6_readBranches 6 = .ok (.ifCond .ne 5, 3) := by decide +kernel
theorem dX6_readBranches_9 : decode cX6_readBranches 9 = .ok (.iconst (-1), 1) := by decide +kernel
theorem dX6_readBranches_10 : decode cX6_readBranches 10 = .ok (.ireturn, 1) := by decide +kernel
theorem dX6_readBranches_11 : decode cX6_readBranches 11 = .ok (.aload_n 0, 1) := by decide +kernel
theorem dX6_readBranches_12 : decode cX6_readBranches 12 = .ok (.iload_n 1, 1) := by decide +kernel
theorem dX6_readBranches_13 : decode cX6_readBranches 13 = .ok (.iload_n 2, 1) := by decide +kernel
theorem dX6_readBranches_14 : decode cX6_readBranches 14 = .ok (.invokevirtual 85, 3) := by decide +kernel
theorem dX6_readBranches_17 : decode cX6_readBranches 17 = .ok (.istore_n 3, 1) := by decide +kernel
theorem dX6_readBranches_18 : decode cX6_readBranches 18 = .ok (.aload_n 0, 1) := by decide +kernel
theorem dX6_readBranches_19 : decode cX6_readBranches 19 = .ok (.getfield 36, 3) := by decide +kernel
theorem dX6_readBranches_22 : decode cX6_readBranches 22 = .ok (.iconst (-1), 1) := by decide +kernel
theorem dX6_readBranches_23 : decode cX6_readBranches 23 = .ok (.if_icmp .eq 5, 3) := by decide +kernel
theorem dX6_readBranches_26 : decode cX6_readBranches 26 = .ok (.iconst (-1), 1) := by decide +kernel
theorem dX6_readBranches_27 : decode cX6_readBranches 27 = .ok (.ireturn, 1) := by decide +kernel
theorem dX6_readBranches_28 : decode cX6_readBranches 28 = .ok (.aload_n 0, 1) := by decide +kernel
theorem dX6_readBranches_29 : decode cX6_readBranches 29 = .ok (.iload_n 1, 1) := by decide +kernel
theorem dX6_readBranches_30 : decode cX6_readBranches 30 = .ok (.iload_n 2, 1) := by decide +kernel
theorem dX6_readBranches_31 : decode cX6_readBranches 31 = .ok (.invokevirtual 85, 3) := by decide +kernel
theorem dX6_readBranches_34 : decode cX6_readBranches 34 = .ok (.istore 4, 2) := by decide +kernel
theorem dX6_readBranches_36 : decode cX6_readBranches 36 = .ok (.aload_n 0, 1) := by decide +kernel
theorem dX6_readBranches_37 : decode cX6_readBranches 37 = .ok (.getfield 36, 3) := by decide +kernel
theorem dX6_readBranches_40 : decode cX6_readBranches 40 = .ok (.iconst (-1), 1) := by decide +kernel
theorem dX6_readBranches_41 : decode cX6_readBranches 41 = .ok (.if_icmp .ne 12, 3) := by decide +kernel
theorem dX6_readBranches_44 : decode cX6_readBranches 44 = .ok (.aload_n 0, 1) := by decide +kernel
theorem dX6_readBranches_45 : decode cX6_readBranches 45 = .ok (.bipush 41, 2) := by decide +kernel
theorem dX6_readBranches_47 : decode cX6_readBranches 47 = .ok (.invokevirtual 103, 3) := by decide +kernel
theorem dX6_readBranches_50 : decode cX6_readBranches 50 = .ok (.ifCond .ne 5, 3) := by decide +kernel
theorem dX6_readBranches_53 : decode cX6_readBranches 53 = .ok (.iconst (-1), 1) := by decide +kernel
theorem dX6_readBranches_54 : decode cX6_readBranches 54 = .ok (.ireturn, 1) := by decide +kernel
theorem dX6_readBranches_55 : decode cX6_readBranches 55 = .ok (.aload_n 0, 1) := by decide +kernel
theorem dX6_readBranches_56 : decode cX6_readBranches 56 = .ok (.getfield 25, 3) := by decide +kernel
theorem dX6_readBranches_59 : decode cX6_readBranches 59 = .ok (.iload_n 1, 1) := by decide +kernel
theorem dX6_readBranches_60 : decode cX6_readBranches 60 = .ok (.iload_n 3, 1) := by decide +kernel
theorem dX6_readBranches_61 : decode cX6_readBranches 61 = .ok (.iload 4, 2) := by decide +kernel
theorem dX6_readBranches_63 : decode cX6_readBranches 63 = .ok (.invokevirtual 106, 3) := by decide +kernel
theorem dX6_readBranches_66 : decode cX6_readBranches 66 = .ok (.iload_n 1, 1) := by decide +kernel
theorem dX6_readBranches_67 : decode cX6_readBranches 67 = .ok (.ireturn, 1) := by decide +kernel
theorem dX6_isQuestion_0 : decode cX6_isQuestion 0 = .ok (.iload_n 0, 1) := by decide +kernel
theorem dX6_isQuestion_1 : decode cX6_isQuestion 1 = .ok (.bipush 76, 2) := by decide +kernel
theorem dX6_isQuestion_3 : decode cX6_isQuestion 3 = .ok (.if_icmp .eq 21, 3) := by decide +kernel
theorem dX6_isQuestion_6 : decode cX6_isQuestion 6 = .ok (.iload_n 0, 1) := by decide +kernel
theorem dX6_isQuestion_7 : decode cX6_isQuestion 7 = .ok (.bipush 82, 2) := by decide +kernel
theorem dX6_isQuestion_9 : decode cX6_isQuestion 9 = .ok (.if_icmp .eq 15, 3) := by decide +kernel
theorem dX6_isQuestion_12 : decode cX6_isQuestion 12 = .ok (.iload_n 0, 1) := by decide +kernel
theorem dX6_isQuestion_13 : decode cX6_isQuestion 13 = .ok (.bipush 80, 2) := by decide +kernel
theorem dX6_isQuestion_15 : decode cX6_isQuestion 15 = .ok (.if_icmp .eq 9, 3) := by decide +kernel
theorem dX6_isQuestion_18 : decode cX6_isQuestion 18 = .ok (.iload_n 0, 1) := by decide +kernel
theorem dX6_isQuestion_19 : decode cX6_isQuestion 19 = .ok (.bipush 68, 2) := by decide +kernel
theorem dX6_isQuestion_21 : decode cX6_isQuestion 21 = .ok (.if_icmp .ne 7, 3) := by decide +kernel
theorem dX6_isQuestion_24 : decode cX6_isQuestion 24 = .ok (.iconst 1, 1) := by decide +kernel
theorem dX6_isQuestion_25 : decode cX6_isQuestion 25 = .ok (.goto 4, 3) := by decide +kernel
theorem dX6_isQuestion_28 : decode cX6_isQuestion 28 = .ok (.iconst 0, 1) := by decide +kernel
theorem dX6_isQuestion_29 : decode cX6_isQuestion 29 = .ok (.ireturn, 1) := by decide +kernel
theorem dX6_readEnd_0 : decode cX6_readEnd 0 = .ok (.aload_n 0, 1) := by decide +kernel
theorem dX6_readEnd_1 : decode cX6_readEnd 1 = .ok (.bipush 59, 2) := by decide +kernel
theorem dX6_readEnd_3 : decode cX6_readEnd 3 = .ok (.invokevirtual 103, 3) := by decide +kernel
theorem dX6_readEnd_6 : decode cX6_readEnd 6 = .ok (.ifCond .eq 16, 3) := by decide +kernel
theorem dX6_readEnd_9 : decode cX6_readEnd 9 = .ok (.aload_n 0, 1) := by decide +kernel
theorem dX6_readEnd_10 : decode cX6_readEnd 10 = .ok (.invokevirtual 43, 3) := by decide +kernel
theorem dX6_readEnd_13 : decode cX6_readEnd 13 = .ok (.iconst (-1), 1) := by decide +kernel
theorem dX6_readEnd_14 : decode cX6_readEnd 14 = .ok (.if_icmp .eq 8, 3) := by decide +kernel
theorem dX6_readEnd_17 : decode cX6_readEnd 17 = .ok (.aload_n 0, 1) := by decide +kernel
theorem dX6_readEnd_18 : decode cX6_readEnd 18 = .ok (.invokevirtual 57, 3) := by decide +kernel
theorem dX6_readEnd_21 : decode cX6_readEnd 21 = .ok (.pop, 1) := by decide +kernel
theorem dX6_readEnd_22 : decode cX6_readEnd 22 = .ok (.return_, 1) := by decide +kernel
theorem dX6_readWord_0 : decode cX6_readWord 0 = .ok (.aload_n 0, 1) := by decide +kernel
theorem dX6_readWord_1 : decode cX6_readWord 1 = .ok (.getfield 33, 3) := by decide +kernel
theorem dX6_readWord_4 : decode cX6_readWord 4 = .ok (.istore_n 2, 1) := by decide +kernel
theorem dX6_readWord_5 : decode cX6_readWord 5 = .ok (.iconst 0, 1) := by decide +kernel
theorem dX6_readWord_6 : decode cX6_readWord 6 = .ok (.istore_n 3, 1) := by decide +kernel
theorem dX6_readWord_7 : decode cX6_readWord 7 = .ok (.iload_n 3, 1) := by decide +kernel
theorem dX6_readWord_8 : decode cX6_readWord 8 = .ok (.aload_n 1, 1) := by decide +kernel
theorem dX6_readWord_9 : decode cX6_readWord 9 = .ok (.invokevirtual 109, 3) := by decide +kernel
theorem dX6_readWord_12 : decode cX6_readWord 12 = .ok (.if_icmp .ge 66, 3) := by decide +kernel
theorem dX6_readWord_15 : decode cX6_readWord 15 = .ok (.aload_n 0, 1) := by decide +kernel
theorem dX6_readWord_16 : decode cX6_readWord 16 = .ok (.getfield 33, 3) := by decide +kernel
theorem dX6_readWord_19 : decode cX6_readWord 19 = .ok (.aload_n 0, 1) := by decide +kernel
theorem dX6_readWord_20 : decode cX6_readWord 20 = .ok (.getfield 29, 3) := by decide +kernel
theorem dX6_readWord_23 : decode cX6_readWord 23 = .ok (.if_icmp .lt 10, 3) := by decide +kernel
theorem dX6_readWord_26 : decode cX6_readWord 26 = .ok (.aload_n 0, 1) := by decide +kernel
theorem dX6_readWord_27 : decode cX6_readWord 27 = .ok (.invokevirtual 57, 3) := by decide +kernel
theorem dX6_readWord_30 : decode cX6_readWord 30 = .ok (.pop, 1) := by decide +kernel
theorem dX6_readWord_31 : decode cX6_readWord 31 = .ok (.iconst 0, 1) := by decide +kernel
theorem dX6_readWord_32 : decode cX6_readWord 32 = .ok (.ireturn, 1) := by decide +kernel
theorem dX6_readWord_33 : decode cX6_readWord 33 = .ok (.aload_n 0, 1) := by decide +kernel
theorem dX6_readWord_34 : decode cX6_readWord 34 = .ok (.getfield 9, 3) := by decide +kernel
theorem dX6_readWord_37 : decode cX6_readWord 37 = .ok (.aload_n 0, 1) := by decide +kernel
theorem dX6_readWord_38 : decode cX6_readWord 38 = .ok (.getfield 33, 3) := by decide +kernel
theorem dX6_readWord_41 : decode cX6_readWord 41 = .ok (.iaload, 1) := by decide +kernel
theorem dX6_readWord_42 : decode cX6_readWord 42 = .ok (.aload_n 1, 1) := by decide +kernel
theorem dX6_readWord_43 : decode cX6_readWord 43 = .ok (.iload_n 3, 1) := by decide +kernel
theorem dX6_readWord_44 : decode cX6_readWord 44 = .ok (.invokevirtual 114, 3) := by decide +kernel
theorem dX6_readWord_47 : decode cX6_readWord 47 = .ok (.if_icmp .eq 15, 3) := by decide +kernel
theorem dX6_readWord_50 : decode cX6_readWord 50 = .ok (.aload_n 0, 1) := by decide +kernel
theorem dX6_readWord_51 : decode cX6_readWord 51 = .ok (.iload_n 2, 1) := by decide +kernel
theorem dX6_readWord_52 : decode cX6_readWord 52 = .ok (.putfield 33, 3) := by decide +kernel
theorem dX6_readWord_55 : decode cX6_readWord 55 = .ok (.aload_n 0, 1) := by decide +kernel
theorem dX6_readWord_56 : decode cX6_readWord 56 = .ok (.invokevirtual 57, 3) := by decide +kernel
theorem dX6_readWord_59 : decode cX6_readWord 59 = .ok (.pop, 1) := by decide +kernel
theorem dX6_readWord_60 : decode cX6_readWord 60 = .ok (.iconst 0, 1) := by decide +kernel
theorem dX6_readWord_61 : decode cX6_readWord 61 = .ok (.ireturn, 1) := by decide +kernel
theorem dX6_readWord_62 : decode cX6_readWord 62 = .ok (.aload_n 0, 1) := by decide +kernel
theorem dX6_readWord_63 : decode cX6_readWord 63 = .ok (.dup, 1) := by decide +kernel
theorem dX6_readWord_64 : decode cX6_readWord 64 = .ok (.getfield 33, 3) := by decide +kernel
theorem dX6_readWord_67 : decode cX6_readWord 67 = .ok (.iconst 1, 1) := by decide +kernel
theorem dX6_readWord_68 : decode cX6_readWord 68 = .ok (.iadd, 1) := by decide +kernel
theorem dX6_readWord_69 : decode cX6_readWord 69 = .ok (.putfield 33, 3) := by decide +kernel
theorem dX6_readWord_72 : decode cX6_readWord 72 = .ok (.iinc 3 1, 3) := by decide +kernel
theorem dX6_readWord_75 : decode cX6_readWord 75 = .ok (.goto (-68), 3) := by decide +kernel
theorem dX6_readWord_78 : decode cX6_readWord 78 = .ok (.iconst 1, 1) := by decide +kernel
theorem dX6_readWord_79 : decode cX6_readWord 79 = .ok (.ireturn, 1) := by decide +kernel
theorem dX6_readFigure_0 : decode cX6_readFigure 0 = .ok (.aload_n 0, 1) := by decide +kernel
theorem dX6_readFigure_1 : decode cX6_readFigure 1 = .ok (.invokevirtual 43, 3) := by decide +kernel
theorem dX6_readFigure_4 : decode cX6_readFigure 4 = .ok (.bipush 48, 2) := by decide +kernel
theorem dX6_readFigure_6 : decode cX6_readFigure 6 = .ok (.isub, 1) := by decide +kernel
theorem dX6_readFigure_7 : decode cX6_readFigure 7 = .ok (.istore_n 3, 1) := by decide +kernel
theorem dX6_readFigure_8 : decode cX6_readFigure 8 = .ok (.iload_n 3, 1) := by decide +kernel
theorem dX6_readFigure_9 : decode cX6_readFigure 9 = .ok (.iload_n 1, 1) := by decide +kernel
theorem dX6_readFigure_10 : decode cX6_readFigure 10 = .ok (.iload_n 2, 1) := by decide +kernel
theorem dX6_readFigure_11 : decode cX6_readFigure 11 = .ok (.invokestatic 68, 3) := by decide +kernel
theorem dX6_readFigure_14 : decode cX6_readFigure 14 = .ok (.ifCond .ne 8, 3) := by decide +kernel
theorem dX6_readFigure_17 : decode cX6_readFigure 17 = .ok (.aload_n 0, 1) := by decide +kernel
theorem dX6_readFigure_18 : decode cX6_readFigure 18 = .ok (.invokevirtual 57, 3) := by decide +kernel
theorem dX6_readFigure_21 : decode cX6_readFigure 21 = .ok (.ireturn, 1) := by decide +kernel
theorem dX6_readFigure_22 : decode cX6_readFigure 22 = .ok (.aload_n 0, 1) := by decide +kernel
theorem dX6_readFigure_23 : decode cX6_readFigure 23 = .ok (.dup, 1) := by decide +kernel
theorem dX6_readFigure_24 : decode cX6_readFigure 24 = .ok (.getfield 33, 3) := by decide +kernel
theorem dX6_readFigure_27 : decode cX6_readFigure 27 = .ok (.iconst 1, 1) := by decide +kernel
theorem dX6_readFigure_28 : decode cX6_readFigure 28 = .ok (.iadd, 1) := by decide +kernel
theorem dX6_readFigure_29 : decode cX6_readFigure 29 = .ok (.putfield 33, 3) := by decide +kernel
theorem dX6_readFigure_32 : decode cX6_readFigure 32 = .ok (.iload_n 3, 1) := by decide +kernel
theorem dX6_readFigure_33 : decode cX6_readFigure 33 = .ok (.ireturn, 1) := by decide +kernel
theorem dX6_readSign_0 : decode cX6_readSign 0 = .ok (.aload_n 0, 1) := by decide +kernel
theorem dX6_readSign_1 : decode cX6_readSign 1 = .ok (.invokevirtual 43, 3) := by decide +kernel
theorem dX6_readSign_4 : decode cX6_readSign 4 = .ok (.iload_n 1, 1) := by decide +kernel
theorem dX6_readSign_5 : decode cX6_readSign 5 = .ok (.if_icmp .eq 10, 3) := by decide +kernel
theorem dX6_readSign_8 : decode cX6_readSign 8 = .ok (.aload_n 0, 1) := by decide +kernel
theorem dX6_readSign_9 : decode cX6_readSign 9 = .ok (.invokevirtual 57, 3) := by decide +kernel
theorem dX6_readSign_12 : decode cX6_readSign 12 = .ok (.pop, 1) := by decide +kernel
theorem dX6_readSign_13 : decode cX6_readSign 13 = .ok (.iconst 0, 1) := by decide +kernel
theorem dX6_readSign_14 : decode cX6_readSign 14 = .ok (.ireturn, 1) := by decide +kernel
theorem dX6_readSign_15 : decode cX6_readSign 15 = .ok (.aload_n 0, 1) := by decide +kernel
theorem dX6_readSign_16 : decode cX6_readSign 16 = .ok (.dup, 1) := by decide +kernel
theorem dX6_readSign_17 : decode cX6_readSign 17 = .ok (.getfield 33, 3) := by decide +kernel
theorem dX6_readSign_20 : decode cX6_readSign 20 = .ok (.iconst 1, 1) := by decide +kernel
theorem dX6_readSign_21 : decode cX6_readSign 21 = .ok (.iadd, 1) := by decide +kernel
theorem dX6_readSign_22 : decode cX6_readSign 22 = .ok (.putfield 33, 3) := by decide +kernel
theorem dX6_readSign_25 : decode cX6_readSign 25 = .ok (.iconst 1, 1) := by decide +kernel
theorem dX6_readSign_26 : decode cX6_readSign 26 = .ok (.ireturn, 1) := by decide +kernel
theorem dX6_look_0 : decode cX6_look 0 = .ok (.aload_n 0, 1) := by decide +kernel
theorem dX6_look_1 : decode cX6_look 1 = .ok (.getfield 33, 3) := by decide +kernel
theorem dX6_look_4 : decode cX6_look 4 = .ok (.aload_n 0, 1) := by decide +kernel
theorem dX6_look_5 : decode cX6_look 5 = .ok (.getfield 29, 3) := by decide +kernel
theorem dX6_look_8 : decode cX6_look 8 = .ok (.if_icmp .ge 30, 3) := by decide +kernel
theorem dX6_look_11 : decode cX6_look 11 = .ok (.aload_n 0, 1) := by decide +kernel
theorem dX6_look_12 : decode cX6_look 12 = .ok (.getfield 9, 3) := by decide +kernel
theorem dX6_look_15 : decode cX6_look 15 = .ok (.aload_n 0, 1) := by decide +kernel
theorem dX6_look_16 : decode cX6_look 16 = .ok (.getfield 33, 3) := by decide +kernel
theorem dX6_look_19 : decode cX6_look 19 = .ok (.iaload, 1) := by decide +kernel
theorem dX6_look_20 : decode cX6_look 20 = .ok (.bipush 32, 2) := by decide +kernel
theorem dX6_look_22 : decode cX6_look 22 = .ok (.if_icmp .ne 16, 3) := by decide +kernel
theorem dX6_look_25 : decode cX6_look 25 = .ok (.aload_n 0, 1) := by decide +kernel
theorem dX6_look_26 : decode cX6_look 26 = .ok (.dup, 1) := by decide +kernel
theorem dX6_look_27 : decode cX6_look 27 = .ok (.getfield 33, 3) := by decide +kernel
theorem dX6_look_30 : decode cX6_look 30 = .ok (.iconst 1, 1) := by decide +kernel
theorem dX6_look_31 : decode cX6_look 31 = .ok (.iadd, 1) := by decide +kernel
theorem dX6_look_32 : decode cX6_look 32 = .ok (.putfield 33, 3) := by decide +kernel
theorem dX6_look_35 : decode cX6_look 35 = .ok (.goto (-35), 3) := by decide +kernel
theorem dX6_look_38 : decode cX6_look 38 = .ok (.aload_n 0, 1) := by decide +kernel
theorem dX6_look_39 : decode cX6_look 39 = .ok (.getfield 33, 3) := by decide +kernel
theorem dX6_look_42 : decode cX6_look 42 = .ok (.aload_n 0, 1) := by decide +kernel
theorem dX6_look_43 : decode cX6_look 43 = .ok (.getfield 29, 3) := by decide +kernel
theorem dX6_look_46 : decode cX6_look 46 = .ok (.if_icmp .ge 15, 3) := by decide +kernel
theorem dX6_look_49 : decode cX6_look 49 = .ok (.aload_n 0, 1) := by decide +kernel
theorem dX6_look_50 : decode cX6_look 50 = .ok (.getfield 9, 3) := by decide +kernel
theorem dX6_look_53 : decode cX6_look 53 = .ok (.aload_n 0, 1) := by decide +kernel
theorem dX6_look_54 : decode cX6_look 54 = .ok (.getfield 33, 3) := by decide +kernel
theorem dX6_look_57 : decode cX6_look 57 = .ok (.iaload, 1) := by decide +kernel
theorem dX6_look_58 : decode cX6_look 58 = .ok (.goto 4, 3) := by decide +kernel
theorem dX6_look_61 : decode cX6_look 61 = .ok (.iconst (-1), 1) := by decide +kernel
theorem dX6_look_62 : decode cX6_look 62 = .ok (.ireturn, 1) := by decide +kernel
theorem dX6_fail_0 : decode cX6_fail 0 = .ok (.aload_n 0, 1) := by decide +kernel
theorem dX6_fail_1 : decode cX6_fail 1 = .ok (.aload_n 0, 1) := by decide +kernel
theorem dX6_fail_2 : decode cX6_fail 2 = .ok (.getfield 33, 3) := by decide +kernel
theorem dX6_fail_5 : decode cX6_fail 5 = .ok (.putfield 36, 3) := by decide +kernel
theorem dX6_fail_8 : decode cX6_fail 8 = .ok (.iconst (-1), 1) := by decide +kernel
theorem dX6_fail_9 : decode cX6_fail 9 = .ok (.ireturn, 1) := by decide +kernel
theorem dX7_init_0 : decode cX7_init 0 = .ok (.aload_n 0, 1) := by decide +kernel
theorem dX7_init_1 : decode cX7_init 1 = .ok (.invokespecial 3, 3) := by decide +kernel
theorem dX7_init_4 : decode cX7_init 4 = .ok (.aload_n 0, 1) := by decide +kernel
end
section
theorem dX7_init_5 : decode cX7_init 5 = .ok (.bipush 120, 2) := by decide +kernel
theorem dX7_init_7 : decode cX7_init 7 = .ok (.newarray .int, 2) := by decide +kernel
theorem dX7_init_9 : decode cX7_init 9 = .ok (.putfield 9, 3) := by decide +kernel
theorem dX7_init_12 : decode cX7_init 12 = .ok (.aload_n 0, 1) := by decide +kernel
theorem dX7_init_13 : decode cX7_init 13 = .ok (.bipush 120, 2) := by decide +kernel
theorem dX7_init_15 : decode cX7_init 15 = .ok (.newarray .int, 2) := by decide +kernel
theorem dX7_init_17 : decode cX7_init 17 = .ok (.putfield 15, 3) := by decide +kernel
theorem dX7_init_20 : decode cX7_init 20 = .ok (.aload_n 0, 1) := by decide +kernel
theorem dX7_init_21 : decode cX7_init 21 = .ok (.bipush 120, 2) := by decide +kernel
theorem dX7_init_23 : decode cX7_init 23 = .ok (.newarray .int, 2) := by decide +kernel
theorem dX7_init_25 : decode cX7_init 25 = .ok (.putfield 18, 3) := by decide +kernel
theorem dX7_init_28 : decode cX7_init 28 = .ok (.aload_n 0, 1) := by decide +kernel
theorem dX7_init_29 : decode cX7_init 29 = .ok (.bipush 120, 2) := by decide +kernel
theorem dX7_init_31 : decode cX7_init 31 = .ok (.newarray .int, 2) := by decide +kernel
theorem dX7_init_33 : decode cX7_init 33 = .ok (.putfield 21, 3) := by decide +kernel
theorem dX7_init_36 : decode cX7_init 36 = .ok (.aload_n 0, 1) := by decide +kernel
theorem dX7_init_37 : decode cX7_init 37 = .ok (.bipush 120, 2) := by decide +kernel
theorem dX7_init_39 : decode cX7_init 39 = .ok (.newarray .int, 2) := by decide +kernel
theorem dX7_init_41 : decode cX7_init 41 = .ok (.putfield 24, 3) := by decide +kernel
theorem dX7_init_44 : decode cX7_init 44 = .ok (.aload_n 0, 1) := by decide +kernel
theorem dX7_init_45 : decode cX7_init 45 = .ok (.bipush 120, 2) := by decide +kernel
theorem dX7_init_47 : decode cX7_init 47 = .ok (.newarray .int, 2) := by decide +kernel
theorem dX7_init_49 : decode cX7_init 49 = .ok (.putfield 27, 3) := by decide +kernel
theorem dX7_init_52 : decode cX7_init 52 = .ok (.aload_n 0, 1) := by decide +kernel
theorem dX7_init_53 : decode cX7_init 53 = .ok (.iconst (-1), 1) := by decide +kernel
theorem dX7_init_54 : decode cX7_init 54 = .ok (.invokevirtual 30, 3) := by decide +kernel
theorem dX7_init_57 : decode cX7_init 57 = .ok (.pop, 1) := by decide +kernel
theorem dX7_init_58 : decode cX7_init 58 = .ok (.return_, 1) := by decide +kernel
theorem dX7_removeAll_0 : decode cX7_removeAll 0 = .ok (.aload_n 0, 1) := by decide +kernel
theorem dX7_removeAll_1 : decode cX7_removeAll 1 = .ok (.iconst 0, 1) := by decide +kernel
theorem dX7_removeAll_2 : decode cX7_removeAll 2 = .ok (.putfield 34, 3) := by decide +kernel
theorem dX7_removeAll_5 : decode cX7_removeAll 5 = .ok (.aload_n 0, 1) := by decide +kernel
theorem dX7_removeAll_6 : decode cX7_removeAll 6 = .ok (.iconst 0, 1) := by decide +kernel
theorem dX7_removeAll_7 : decode cX7_removeAll 7 = .ok (.putfield 38, 3) := by decide +kernel
theorem dX7_removeAll_10 : decode cX7_removeAll 10 = .ok (.aload_n 0, 1) := by decide +kernel
theorem dX7_removeAll_11 : decode cX7_removeAll 11 = .ok (.iconst 0, 1) := by decide +kernel
theorem dX7_removeAll_12 : decode cX7_removeAll 12 = .ok (.putfield 41, 3) := by decide +kernel
theorem dX7_removeAll_15 : decode cX7_removeAll 15 = .ok (.return_, 1) := by decide +kernel
theorem dX7_addLeaf_0 : decode cX7_addLeaf 0 = .ok (.aload_n 0, 1) := by decide +kernel
theorem dX7_addLeaf_1 : decode cX7_addLeaf 1 = .ok (.bipush 42, 2) := by decide +kernel
theorem dX7_addLeaf_3 : decode cX7_addLeaf 3 = .ok (.iconst 0, 1) := by decide +kernel
theorem dX7_addLeaf_4 : decode cX7_addLeaf 4 = .ok (.iload_n 1, 1) := by decide +kernel
theorem dX7_addLeaf_5 : decode cX7_addLeaf 5 = .ok (.invokevirtual 44, 3) := by decide +kernel
theorem dX7_addLeaf_8 : decode cX7_addLeaf 8 = .ok (.istore_n 2, 1) := by decide +kernel
theorem dX7_addLeaf_9 : decode cX7_addLeaf 9 = .ok (.iload_n 2, 1) := by decide +kernel
theorem dX7_addLeaf_10 : decode cX7_addLeaf 10 = .ok (.iconst (-1), 1) := by decide +kernel
theorem dX7_addLeaf_11 : decode cX7_addLeaf 11 = .ok (.if_icmp .eq 23, 3) := by decide +kernel
theorem dX7_addLeaf_14 : decode cX7_addLeaf 14 = .ok (.aload_n 0, 1) := by decide +kernel
theorem dX7_addLeaf_15 : decode cX7_addLeaf 15 = .ok (.getfield 27, 3) := by decide +kernel
theorem dX7_addLeaf_18 : decode cX7_addLeaf 18 = .ok (.iload_n 2, 1) := by decide +kernel
theorem dX7_addLeaf_19 : decode cX7_addLeaf 19 = .ok (.aload_n 0, 1) := by decide +kernel
theorem dX7_addLeaf_20 : decode cX7_addLeaf 20 = .ok (.getfield 38, 3) := by decide +kernel
theorem dX7_addLeaf_23 : decode cX7_addLeaf 23 = .ok (.iastore, 1) := by decide +kernel
theorem dX7_addLeaf_24 : decode cX7_addLeaf 24 = .ok (.aload_n 0, 1) := by decide +kernel
theorem dX7_addLeaf_25 : decode cX7_addLeaf 25 = .ok (.dup, 1) := by decide +kernel
theorem dX7_addLeaf_26 : decode cX7_addLeaf 26 = .ok (.getfield 38, 3) := by decide +kernel
theorem dX7_addLeaf_29 : decode cX7_addLeaf 29 = .ok (.iconst 1, 1) := by decide +kernel
theorem dX7_addLeaf_30 : decode cX7_addLeaf 30 = .ok (.iadd, 1) := by decide +kernel
theorem dX7_addLeaf_31 : decode cX7_addLeaf 31 = .ok (.putfield 38, 3) := by decide +kernel
theorem dX7_addLeaf_34 : decode cX7_addLeaf 34 = .ok (.iload_n 2, 1) := by decide +kernel
theorem dX7_addLeaf_35 : decode cX7_addLeaf 35 = .ok (.ireturn, 1) := by decide +kernel
theorem dX7_addQuestion_0 : decode cX7_addQuestion 0 = .ok (.aload_n 0, 1) := by decide +kernel
theorem dX7_addQuestion_1 : decode cX7_addQuestion 1 = .ok (.aload_n 0, 1) := by decide +kernel
theorem dX7_addQuestion_2 : decode cX7_addQuestion 2 = .ok (.getfield 41, 3) := by decide +kernel
theorem dX7_addQuestion_5 : decode cX7_addQuestion 5 = .ok (.iload 4, 2) := by decide +kernel
theorem dX7_addQuestion_7 : decode cX7_addQuestion 7 = .ok (.invokestatic 48, 3) := by decide +kernel
theorem dX7_addQuestion_10 : decode cX7_addQuestion 10 = .ok (.putfield 41, 3) := by decide +kernel
theorem dX7_addQuestion_13 : decode cX7_addQuestion 13 = .ok (.aload_n 0, 1) := by decide +kernel
theorem dX7_addQuestion_14 : decode cX7_addQuestion 14 = .ok (.iload_n 1, 1) := by decide +kernel
theorem dX7_addQuestion_15 : decode cX7_addQuestion 15 = .ok (.iload_n 2, 1) := by decide +kernel
theorem dX7_addQuestion_16 : decode cX7_addQuestion 16 = .ok (.iload_n 3, 1) := by decide +kernel
theorem dX7_addQuestion_17 : decode cX7_addQuestion 17 = .ok (.invokevirtual 44, 3) := by decide +kernel
theorem dX7_addQuestion_20 : decode cX7_addQuestion 20 = .ok (.ireturn, 1) := by decide +kernel
theorem dX7_addNode_0 : decode cX7_addNode 0 = .ok (.aload_n 0, 1) := by decide +kernel
theorem dX7_addNode_1 : decode cX7_addNode 1 = .ok (.getfield 34, 3) := by decide +kernel
theorem dX7_addNode_4 : decode cX7_addNode 4 = .ok (.ifCond .lt 12, 3) := by decide +kernel
theorem dX7_addNode_7 : decode cX7_addNode 7 = .ok (.aload_n 0, 1) := by decide +kernel
theorem dX7_addNode_8 : decode cX7_addNode 8 = .ok (.getfield 34, 3) := by decide +kernel
theorem dX7_addNode_11 : decode cX7_addNode 11 = .ok (.bipush 120, 2) := by decide +kernel
theorem dX7_addNode_13 : decode cX7_addNode 13 = .ok (.if_icmp .lt 5, 3) := by decide +kernel
theorem dX7_addNode_16 : decode cX7_addNode 16 = .ok (.iconst (-1), 1) := by decide +kernel
theorem dX7_addNode_17 : decode cX7_addNode 17 = .ok (.ireturn, 1) := by decide +kernel
theorem dX7_addNode_18 : decode cX7_addNode 18 = .ok (.aload_n 0, 1) := by decide +kernel
theorem dX7_addNode_19 : decode cX7_addNode 19 = .ok (.getfield 34, 3) := by decide +kernel
theorem dX7_addNode_22 : decode cX7_addNode 22 = .ok (.istore 4, 2) := by decide +kernel
theorem dX7_addNode_24 : decode cX7_addNode 24 = .ok (.aload_n 0, 1) := by decide +kernel
theorem dX7_addNode_25 : decode cX7_addNode 25 = .ok (.getfield 9, 3) := by decide +kernel
theorem dX7_addNode_28 : decode cX7_addNode 28 = .ok (.iload 4, 2) := by decide +kernel
theorem dX7_addNode_30 : decode cX7_addNode 30 = .ok (.iload_n 1, 1) := by decide +kernel
theorem dX7_addNode_31 : decode cX7_addNode 31 = .ok (.iastore, 1) := by decide +kernel
theorem dX7_addNode_32 : decode cX7_addNode 32 = .ok (.aload_n 0, 1) := by decide +kernel
theorem dX7_addNode_33 : decode cX7_addNode 33 = .ok (.getfield 15, 3) := by decide +kernel
theorem dX7_addNode_36 : decode cX7_addNode 36 = .ok (.iload 4, 2) := by decide +kernel
theorem dX7_addNode_38 : decode cX7_addNode 38 = .ok (.iload_n 2, 1) := by decide +kernel
theorem dX7_addNode_39 : decode cX7_addNode 39 = .ok (.iastore, 1) := by decide +kernel
theorem dX7_addNode_40 : decode cX7_addNode 40 = .ok (.aload_n 0, 1) := by decide +kernel
theorem dX7_addNode_41 : decode cX7_addNode 41 = .ok (.getfield 18, 3) := by decide +kernel
theorem dX7_addNode_44 : decode cX7_addNode 44 = .ok (.iload 4, 2) := by decide +kernel
theorem dX7_addNode_46 : decode cX7_addNode 46 = .ok (.iload_n 3, 1) := by decide +kernel
theorem dX7_addNode_47 : decode cX7_addNode 47 = .ok (.iastore, 1) := by decide +kernel
theorem dX7_addNode_48 : decode cX7_addNode 48 = .ok (.aload_n 0, 1) := by decide +kernel
theorem dX7_addNode_49 : decode cX7_addNode 49 = .ok (.getfield 21, 3) := by decide +kernel
theorem dX7_addNode_52 : decode cX7_addNode 52 = .ok (.iload 4, 2) := by decide +kernel
theorem dX7_addNode_54 : decode cX7_addNode 54 = .ok (.iconst (-1), 1) := by decide +kernel
theorem dX7_addNode_55 : decode cX7_addNode 55 = .ok (.iastore, 1) := by decide +kernel
theorem dX7_addNode_56 : decode cX7_addNode 56 = .ok (.aload_n 0, 1) := by decide +kernel
theorem dX7_addNode_57 : decode cX7_addNode 57 = .ok (.getfield 24, 3) := by decide +kernel
theorem dX7_addNode_60 : decode cX7_addNode 60 = .ok (.iload 4, 2) := by decide +kernel
theorem dX7_addNode_62 : decode cX7_addNode 62 = .ok (.iconst (-1), 1) := by decide +kernel
theorem dX7_addNode_63 : decode cX7_addNode 63 = .ok (.iastore, 1) := by decide +kernel
theorem dX7_addNode_64 : decode cX7_addNode 64 = .ok (.aload_n 0, 1) := by decide +kernel
theorem dX7_addNode_65 : decode cX7_addNode 65 = .ok (.getfield 27, 3) := by decide +kernel
theorem dX7_addNode_68 : decode cX7_addNode 68 = .ok (.iload 4, 2) := by decide +kernel
theorem dX7_addNode_70 : decode cX7_addNode 70 = .ok (.iconst (-1), 1) := by decide +kernel
theorem dX7_addNode_71 : decode cX7_addNode 71 = .ok (.iastore, 1) := by decide +kernel
theorem dX7_addNode_72 : decode cX7_addNode 72 = .ok (.aload_n 0, 1) := by decide +kernel
theorem dX7_addNode_73 : decode cX7_addNode 73 = .ok (.dup, 1) := by decide +kernel
theorem dX7_addNode_74 : decode cX7_addNode 74 = .ok (.getfield 34, 3) := by decide +kernel
theorem dX7_addNode_77 : decode cX7_addNode 77 = .ok (.iconst 1, 1) := by decide +kernel
theorem dX7_addNode_78 : decode cX7_addNode 78 = .ok (.iadd, 1) := by decide +kernel
theorem dX7_addNode_79 : decode cX7_addNode 79 = .ok (.putfield 34, 3) := by decide +kernel
theorem dX7_addNode_82 : decode cX7_addNode 82 = .ok (.iload 4, 2) := by decide +kernel
theorem dX7_addNode_84 : decode cX7_addNode 84 = .ok (.ireturn, 1) := by decide +kernel
theorem dX7_putBranches_0 : decode cX7_putBranches 0 = .ok (.aload_n 0, 1) := by decide +kernel
theorem dX7_putBranches_1 : decode cX7_putBranches 1 = .ok (.iload_n 1, 1) := by decide +kernel
theorem dX7_putBranches_2 : decode cX7_putBranches 2 = .ok (.invokevirtual 54, 3) := by decide +kernel
theorem dX7_putBranches_5 : decode cX7_putBranches 5 = .ok (.ifCond .eq 17, 3) := by decide +kernel
theorem dX7_putBranches_8 : decode cX7_putBranches 8 = .ok (.aload_n 0, 1) := by decide +kernel
theorem dX7_putBranches_9 : decode cX7_putBranches 9 = .ok (.getfield 21, 3) := by decide +kernel
theorem dX7_putBranches_12 : decode cX7_putBranches 12 = .ok (.iload_n 1, 1) := by decide +kernel
theorem dX7_putBranches_13 : decode cX7_putBranches 13 = .ok (.iload_n 2, 1) := by decide +kernel
theorem dX7_putBranches_14 : decode cX7_putBranches 14 = .ok (.iastore, 1) := by decide +kernel
theorem dX7_putBranches_15 : decode cX7_putBranches 15 = .ok (.aload_n 0, 1) := by decide +kernel
theorem dX7_putBranches_16 : decode cX7_putBranches 16 = .ok (.getfield 24, 3) := by decide +kernel
theorem dX7_putBranches_19 : decode cX7_putBranches 19 = .ok (.iload_n 1, 1) := by decide +kernel
theorem dX7_putBranches_20 : decode cX7_putBranches 20 = .ok (.iload_n 3, 1) := by decide +kernel
theorem dX7_putBranches_21 : decode cX7_putBranches 21 = .ok (.iastore, 1) := by decide +kernel
theorem dX7_putBranches_22 : decode cX7_putBranches 22 = .ok (.return_, 1) := by decide +kernel
theorem dX7_become_0 : decode cX7_become 0 = .ok (.aload_n 0, 1) := by decide +kernel
theorem dX7_become_1 : decode cX7_become 1 = .ok (.aload_n 1, 1) := by decide +kernel
theorem dX7_become_2 : decode cX7_become 2 = .ok (.getfield 34, 3) := by decide +kernel
theorem dX7_become_5 : decode cX7_become 5 = .ok (.putfield 34, 3) := by decide +kernel
theorem dX7_become_8 : decode cX7_become 8 = .ok (.aload_n 0, 1) := by decide +kernel
theorem dX7_become_9 : decode cX7_become 9 = .ok (.aload_n 1, 1) := by decide +kernel
theorem dX7_become_10 : decode cX7_become 10 = .ok (.getfield 38, 3) := by decide +kernel
theorem dX7_become_13 : decode cX7_become 13 = .ok (.putfield 38, 3) := by decide +kernel
theorem dX7_become_16 : decode cX7_become 16 = .ok (.aload_n 0, 1) := by decide +kernel
theorem dX7_become_17 : decode cX7_become 17 = .ok (.aload_n 1, 1) := by decide +kernel
theorem dX7_become_18 : decode cX7_become 18 = .ok (.getfield 41, 3) := by decide +kernel
theorem dX7_become_21 : decode cX7_become 21 = .ok (.putfield 41, 3) := by decide +kernel
theorem dX7_become_24 : decode cX7_become 24 = .ok (.iconst 0, 1) := by decide +kernel
theorem dX7_become_25 : decode cX7_become 25 = .ok (.istore_n 2, 1) := by decide +kernel
theorem dX7_become_26 : decode cX7_become 26 = .ok (.iload_n 2, 1) := by decide +kernel
theorem dX7_become_27 : decode cX7_become 27 = .ok (.bipush 120, 2) := by decide +kernel
theorem dX7_become_29 : decode cX7_become 29 = .ok (.if_icmp .ge 89, 3) := by decide +kernel
theorem dX7_become_32 : decode cX7_become 32 = .ok (.iload_n 2, 1) := by decide +kernel
theorem dX7_become_33 : decode cX7_become 33 = .ok (.aload_n 0, 1) := by decide +kernel
theorem dX7_become_34 : decode cX7_become 34 = .ok (.getfield 34, 3) := by decide +kernel
theorem dX7_become_37 : decode cX7_become 37 = .ok (.if_icmp .ge 81, 3) := by decide +kernel
theorem dX7_become_40 : decode cX7_become 40 = .ok (.aload_n 0, 1) := by decide +kernel
theorem dX7_become_41 : decode cX7_become 41 = .ok (.getfield 9, 3) := by decide +kernel
theorem dX7_become_44 : decode cX7_become 44 = .ok (.iload_n 2, 1) := by decide +kernel
theorem dX7_become_45 : decode cX7_become 45 = .ok (.aload_n 1, 1) := by decide +kernel
theorem dX7_become_46 : decode cX7_become 46 = .ok (.getfield 9, 3) := by decide +kernel
theorem dX7_become_49 : decode cX7_become 49 = .ok (.iload_n 2, 1) := by decide +kernel
theorem dX7_become_50 : decode cX7_become 50 = .ok (.iaload, 1) := by decide +kernel
theorem dX7_become_51 : decode cX7_become 51 = .ok (.iastore, 1) := by decide +kernel
theorem dX7_become_52 : decode cX7_become 52 = .ok (.aload_n 0, 1) := by decide +kernel
theorem dX7_become_53 : decode cX7_become 53 = .ok (.getfield 15, 3) := by decide +kernel
theorem dX7_become_56 : decode cX7_become 56 = .ok (.iload_n 2, 1) := by decide +kernel
theorem dX7_become_57 : decode cX7_become 57 = .ok (.aload_n 1, 1) := by decide +kernel
theorem dX7_become_58 : decode cX7_become 58 = .ok (.getfield 15, 3) := by decide +kernel
theorem dX7_become_61 : decode cX7_become 61 = .ok (.iload_n 2, 1) := by decide +kernel
theorem dX7_become_62 : decode cX7_become 62 = .ok (.iaload, 1) := by decide +kernel
theorem dX7_become_63 : decode cX7_become 63 = .ok (.iastore, 1) := by decide +kernel
theorem dX7_become_64 : decode cX7_become 64 = .ok (.aload_n 0, 1) := by decide +kernel
theorem dX7_become_65 : decode cX7_become 65 = .ok (.getfield 18, 3) := by decide +kernel
theorem dX7_become_68 : decode cX7_become 68 = .ok (.iload_n 2, 1) := by decide +kernel
theorem dX7_become_69 : decode cX7_become 69 = .ok (.aload_n 1, 1) := by decide +kernel
theorem dX7_become_70 : decode cX7_become 70 = .ok (.getfield 18, 3) := by decide +kernel
theorem dX7_become_73 : decode cX7_become 73 = .ok (.iload_n 2, 1) := by decide +kernel
theorem dX7_become_74 : decode cX7_become 74 = .ok (.iaload, 1) := by decide +kernel
theorem dX7_become_75 : decode cX7_become 75 = .ok (.iastore, 1) := by decide +kernel
theorem dX7_become_76 : decode cX7_become 76 = .ok (.aload_n 0, 1) := by decide +kernel
theorem dX7_become_77 : decode cX7_become 77 = .ok (.getfield 21, 3) := by decide +kernel
theorem dX7_become_80 : decode cX7_become 80 = .ok (.iload_n 2, 1) := by decide +kernel
theorem dX7_become_81 : decode cX7_become 81 = .ok (.aload_n 1, 1) := by decide +kernel
theorem dX7_become_82 : decode cX7_become 82 = .ok (.getfield 21, 3) := by decide +kernel
theorem dX7_become_85 : decode cX7_become 85 = .ok (.iload_n 2, 1) := by decide +kernel
theorem dX7_become_86 : decode cX7_become 86 = .ok (.iaload, 1) := by decide +kernel
theorem dX7_become_87 : decode cX7_become 87 = .ok (.iastore, 1) := by decide +kernel
theorem dX7_become_88 : decode cX7_become 88 = .ok (.aload_n 0, 1) := by decide +kernel
theorem dX7_become_89 : decode cX7_become 89 = .ok (.getfield 24, 3) := by decide +kernel
theorem dX7_become_92 : decode cX7_become 92 = .ok (.iload_n 2, 1) := by decide +kernel
theorem dX7_become_93 : decode cX7_become 93 = .ok (.aload_n 1, 1) := by decide +kernel
theorem dX7_become_94 : decode cX7_become 94 = .ok (.getfield 24, 3) := by decide +kernel
theorem dX7_become_97 : decode cX7_become 97 = .ok (.iload_n 2, 1) := by decide +kernel
theorem dX7_become_98 : decode cX7_become 98 = .ok (.iaload, 1) := by decide +kernel
theorem dX7_become_99 : decode cX7_become 99 = .ok (.iastore, 1) := by decide +kernel
theorem dX7_become_100 : decode cX7_become 100 = .ok (.aload_n 0, 1) := by decide +kernel
theorem dX7_become_101 : decode cX7_become 101 = .ok (.getfield 27, 3) := by decide +kernel
theorem dX7_become_104 : decode cX7_become 104 = .ok (.iload_n 2, 1) := by decide +kernel
theorem dX7_become_105 : decode cX7_become 105 = .ok (.aload_n 1, 1) := by decide +kernel
theorem dX7_become_106 : decode cX7_become 106 = .ok (.getfield 27, 3) := by decide +kernel
theorem dX7_become_109 : decode cX7_become 109 = .ok (.iload_n 2, 1) := by decide +kernel
theorem dX7_become_110 : decode cX7_become 110 = .ok (.iaload, 1) := by decide +kernel
theorem dX7_become_111 : decode cX7_become 111 = .ok (.iastore, 1) := by decide +kernel
theorem dX7_become_112 : decode cX7_become 112 = .ok (.iinc 2 1, 3) := by decide +kernel
theorem dX7_become_115 : decode cX7_become 115 = .ok (.goto (-89), 3) := by decide +kernel
theorem dX7_become_118 : decode cX7_become 118 = .ok (.return_, 1) := by decide +kernel
theorem dX7_leafFor_0 : decode cX7_leafFor 0 = .ok (.iconst 0, 1) := by decide +kernel
theorem dX7_leafFor_1 : decode cX7_leafFor 1 = .ok (.istore 5, 2) := by decide +kernel
theorem dX7_leafFor_3 : decode cX7_leafFor 3 = .ok (.iconst 0, 1) := by decide +kernel
theorem dX7_leafFor_4 : decode cX7_leafFor 4 = .ok (.istore 6, 2) := by decide +kernel
theorem dX7_leafFor_6 : decode cX7_leafFor 6 = .ok (.iload 6, 2) := by decide +kernel
theorem dX7_leafFor_8 : decode cX7_leafFor 8 = .ok (.bipush 7, 2) := by decide +kernel
theorem dX7_leafFor_10 : decode cX7_leafFor 10 = .ok (.if_icmp .ge 70, 3) := by decide +kernel
theorem dX7_leafFor_13 : decode cX7_leafFor 13 = .ok (.aload_n 0, 1) := by decide +kernel
theorem dX7_leafFor_14 : decode cX7_leafFor 14 = .ok (.getfield 9, 3) := by decide +kernel
theorem dX7_leafFor_17 : decode cX7_leafFor 17 = .ok (.iload 5, 2) := by decide +kernel
theorem dX7_leafFor_19 : decode cX7_leafFor 19 = .ok (.iaload, 1) := by decide +kernel
theorem dX7_leafFor_20 : decode cX7_leafFor 20 = .ok (.bipush 42, 2) := by decide +kernel
theorem dX7_leafFor_22 : decode cX7_leafFor 22 = .ok (.if_icmp .eq 58, 3) := by decide +kernel
theorem dX7_leafFor_25 : decode cX7_leafFor 25 = .ok (.aload_n 0, 1) := by decide +kernel
theorem dX7_leafFor_26 : decode cX7_leafFor 26 = .ok (.iload 5, 2) := by decide +kernel
theorem dX7_leafFor_28 : decode cX7_leafFor 28 = .ok (.iload_n 1, 1) := by decide +kernel
theorem dX7_leafFor_29 : decode cX7_leafFor 29 = .ok (.iload_n 2, 1) := by decide +kernel
theorem dX7_leafFor_30 : decode cX7_leafFor 30 = .ok (.iload_n 3, 1) := by decide +kernel
theorem dX7_leafFor_31 : decode cX7_leafFor 31 = .ok (.iload 4, 2) := by decide +kernel
theorem dX7_leafFor_33 : decode cX7_leafFor 33 = .ok (.invokevirtual 58, 3) := by decide +kernel
theorem dX7_leafFor_36 : decode cX7_leafFor 36 = .ok (.ifCond .eq 13, 3) := by decide +kernel
theorem dX7_leafFor_39 : decode cX7_leafFor 39 = .ok (.aload_n 0, 1) := by decide +kernel
theorem dX7_leafFor_40 : decode cX7_leafFor 40 = .ok (.getfield 21, 3) := by decide +kernel
theorem dX7_leafFor_43 : decode cX7_leafFor 43 = .ok (.iload 5, 2) := by decide +kernel
theorem dX7_leafFor_45 : decode cX7_leafFor 45 = .ok (.iaload, 1) := by decide +kernel
theorem dX7_leafFor_46 : decode cX7_leafFor 46 = .ok (.goto 10, 3) := by decide +kernel
theorem dX7_leafFor_49 : decode cX7_leafFor 49 = .ok (.aload_n 0, 1) := by decide +kernel
theorem dX7_leafFor_50 : decode cX7_leafFor 50 = .ok (.getfield 24, 3) := by decide +kernel
theorem dX7_leafFor_53 : decode cX7_leafFor 53 = .ok (.iload 5, 2) := by decide +kernel
theorem dX7_leafFor_55 : decode cX7_leafFor 55 = .ok (.iaload, 1) := by decide +kernel
theorem dX7_leafFor_56 : decode cX7_leafFor 56 = .ok (.istore 7, 2) := by decide +kernel
theorem dX7_leafFor_58 : decode cX7_leafFor 58 = .ok (.aload_n 0, 1) := by decide +kernel
theorem dX7_leafFor_59 : decode cX7_leafFor 59 = .ok (.iload 7, 2) := by decide +kernel
theorem dX7_leafFor_61 : decode cX7_leafFor 61 = .ok (.invokevirtual 54, 3) := by decide +kernel
theorem dX7_leafFor_64 : decode cX7_leafFor 64 = .ok (.ifCond .ne 6, 3) := by decide +kernel
theorem dX7_leafFor_67 : decode cX7_leafFor 67 = .ok (.iload 5, 2) := by decide +kernel
theorem dX7_leafFor_69 : decode cX7_leafFor 69 = .ok (.ireturn, 1) := by decide +kernel
theorem dX7_leafFor_70 : decode cX7_leafFor 70 = .ok (.iload 7, 2) := by decide +kernel
theorem dX7_leafFor_72 : decode cX7_leafFor 72 = .ok (.istore 5, 2) := by decide +kernel
theorem dX7_leafFor_74 : decode cX7_leafFor 74 = .ok (.iinc 6 1, 3) := by decide +kernel
theorem dX7_leafFor_77 : decode cX7_leafFor 77 = .ok (.goto (-71), 3) := by decide +kernel
theorem dX7_leafFor_80 : decode cX7_leafFor 80 = .ok (.iload 5, 2) := by decide +kernel
theorem dX7_leafFor_82 : decode cX7_leafFor 82 = .ok (.ireturn, 1) := by decide +kernel
theorem dX7_saysYes_0 : decode cX7_saysYes 0 = .ok (.aload_n 0, 1) := by decide +kernel
theorem dX7_saysYes_1 : decode cX7_saysYes 1 = .ok (.getfield 9, 3) := by decide +kernel
theorem dX7_saysYes_4 : decode cX7_saysYes 4 = .ok (.iload_n 1, 1) := by decide +kernel
theorem dX7_saysYes_5 : decode cX7_saysYes 5 = .ok (.iaload, 1) := by decide +kernel
theorem dX7_saysYes_6 : decode cX7_saysYes 6 = .ok (.lookupswitch 83 #[(76, 34), (80, 66), (82, 50)], 34) := by decide +kernel
theorem dX7_saysYes_40 : decode cX7_saysYes 40 = .ok (.iload_n 2, 1) := by decide +kernel
theorem dX7_saysYes_41 : decode cX7_saysYes 41 = .ok (.aload_n 0, 1) := by decide +kernel
theorem dX7_saysYes_42 : decode cX7_saysYes 42 = .ok (.getfield 15, 3) := by decide +kernel
theorem dX7_saysYes_45 : decode cX7_saysYes 45 = .ok (.iload_n 1, 1) := by decide +kernel
theorem dX7_saysYes_46 : decode cX7_saysYes 46 = .ok (.iaload, 1) := by decide +kernel
theorem dX7_saysYes_47 : decode cX7_saysYes 47 = .ok (.if_icmp .ne 7, 3) := by decide +kernel
theorem dX7_saysYes_50 : decode cX7_saysYes 50 = .ok (.iconst 1, 1) := by decide +kernel
theorem dX7_saysYes_51 : decode cX7_saysYes 51 = .ok (.goto 4, 3) := by decide +kernel
theorem dX7_saysYes_54 : decode cX7_saysYes 54 = .ok (.iconst 0, 1) := by decide +kernel
theorem dX7_saysYes_55 : decode cX7_saysYes 55 = .ok (.ireturn, 1) := by decide +kernel
theorem dX7_saysYes_56 : decode cX7_saysYes 56 = .ok (.iload_n 3, 1) := by decide +kernel
theorem dX7_saysYes_57 : decode cX7_saysYes 57 = .ok (.aload_n 0, 1) := by decide +kernel
theorem dX7_saysYes_58 : decode cX7_saysYes 58 = .ok (.getfield 15, 3) := by decide +kernel
theorem dX7_saysYes_61 : decode cX7_saysYes 61 = .ok (.iload_n 1, 1) := by decide +kernel
theorem dX7_saysYes_62 : decode cX7_saysYes 62 = .ok (.iaload, 1) := by decide +kernel
theorem dX7_saysYes_63 : decode cX7_saysYes 63 = .ok (.if_icmp .ne 7, 3) := by decide +kernel
theorem dX7_saysYes_66 : decode cX7_saysYes 66 = .ok (.iconst 1, 1) := by decide +kernel
theorem dX7_saysYes_67 : decode cX7_saysYes 67 = .ok (.goto 4, 3) := by decide +kernel
theorem dX7_saysYes_70 : decode cX7_saysYes 70 = .ok (.iconst 0, 1) := by decide +kernel
theorem dX7_saysYes_71 : decode cX7_saysYes 71 = .ok (.ireturn, 1) := by decide +kernel
theorem dX7_saysYes_72 : decode cX7_saysYes 72 = .ok (.iload 4, 2) := by decide +kernel
theorem dX7_saysYes_74 : decode cX7_saysYes 74 = .ok (.aload_n 0, 1) := by decide +kernel
theorem dX7_saysYes_75 : decode cX7_saysYes 75 = .ok (.getfield 15, 3) := by decide +kernel
theorem dX7_saysYes_78 : decode cX7_saysYes 78 = .ok (.iload_n 1, 1) := by decide +kernel
theorem dX7_saysYes_79 : decode cX7_saysYes 79 = .ok (.iaload, 1) := by decide +kernel
theorem dX7_saysYes_80 : decode cX7_saysYes 80 = .ok (.if_icmp .le 7, 3) := by decide +kernel
theorem dX7_saysYes_83 : decode cX7_saysYes 83 = .ok (.iconst 1, 1) := by decide +kernel
theorem dX7_saysYes_84 : decode cX7_saysYes 84 = .ok (.goto 4, 3) := by decide +kernel
theorem dX7_saysYes_87 : decode cX7_saysYes 87 = .ok (.iconst 0, 1) := by decide +kernel
theorem dX7_saysYes_88 : decode cX7_saysYes 88 = .ok (.ireturn, 1) := by decide +kernel
theorem dX7_saysYes_89 : decode cX7_saysYes 89 = .ok (.iload 5, 2) := by decide +kernel
theorem dX7_saysYes_91 : decode cX7_saysYes 91 = .ok (.aload_n 0, 1) := by decide +kernel
theorem dX7_saysYes_92 : decode cX7_saysYes 92 = .ok (.getfield 15, 3) := by decide +kernel
theorem dX7_saysYes_95 : decode cX7_saysYes 95 = .ok (.iload_n 1, 1) := by decide +kernel
theorem dX7_saysYes_96 : decode cX7_saysYes 96 = .ok (.iaload, 1) := by decide +kernel
theorem dX7_saysYes_97 : decode cX7_saysYes 97 = .ok (.if_icmp .le 7, 3) := by decide +kernel
theorem dX7_saysYes_100 : decode cX7_saysYes 100 = .ok (.iconst 1, 1) := by decide +kernel
theorem dX7_saysYes_101 : decode cX7_saysYes 101 = .ok (.goto 4, 3) := by decide +kernel
theorem dX7_saysYes_104 : decode cX7_saysYes 104 = .ok (.iconst 0, 1) := by decide +kernel
theorem dX7_saysYes_105 : decode cX7_saysYes 105 = .ok (.ireturn, 1) := by decide +kernel
theorem dX7_liesUnder_0 : decode cX7_liesUnder 0 = .ok (.iload_n 1, 1) := by decide +kernel
theorem dX7_liesUnder_1 : decode cX7_liesUnder 1 = .ok (.istore_n 3, 1) := by decide +kernel
theorem dX7_liesUnder_2 : decode cX7_liesUnder 2 = .ok (.iconst 0, 1) := by decide +kernel
theorem dX7_liesUnder_3 : decode cX7_liesUnder 3 = .ok (.istore 4, 2) := by decide +kernel
theorem dX7_liesUnder_5 : decode cX7_liesUnder 5 = .ok (.iload 4, 2) := by decide +kernel
theorem dX7_liesUnder_7 : decode cX7_liesUnder 7 = .ok (.bipush 7, 2) := by decide +kernel
theorem dX7_liesUnder_9 : decode cX7_liesUnder 9 = .ok (.if_icmp .ge 25, 3) := by decide +kernel
theorem dX7_liesUnder_12 : decode cX7_liesUnder 12 = .ok (.iload_n 3, 1) := by decide +kernel
theorem dX7_liesUnder_13 : decode cX7_liesUnder 13 = .ok (.iload_n 2, 1) := by decide +kernel
theorem dX7_liesUnder_14 : decode cX7_liesUnder 14 = .ok (.if_icmp .eq 20, 3) := by decide +kernel
theorem dX7_liesUnder_17 : decode cX7_liesUnder 17 = .ok (.iload_n 3, 1) := by decide +kernel
theorem dX7_liesUnder_18 : decode cX7_liesUnder 18 = .ok (.iconst (-1), 1) := by decide +kernel
theorem dX7_liesUnder_19 : decode cX7_liesUnder 19 = .ok (.if_icmp .eq 15, 3) := by decide +kernel
theorem dX7_liesUnder_22 : decode cX7_liesUnder 22 = .ok (.aload_n 0, 1) := by decide +kernel
theorem dX7_liesUnder_23 : decode cX7_liesUnder 23 = .ok (.iload_n 3, 1) := by decide +kernel
theorem dX7_liesUnder_24 : decode cX7_liesUnder 24 = .ok (.invokevirtual 62, 3) := by decide +kernel
theorem dX7_liesUnder_27 : decode cX7_liesUnder 27 = .ok (.istore_n 3, 1) := by decide +kernel
theorem dX7_liesUnder_28 : decode cX7_liesUnder 28 = .ok (.iinc 4 1, 3) := by decide +kernel
theorem dX7_liesUnder_31 : decode cX7_liesUnder 31 = .ok (.goto (-26), 3) := by decide +kernel
theorem dX7_liesUnder_34 : decode cX7_liesUnder 34 = .ok (.iload_n 3, 1) := by decide +kernel
theorem dX7_liesUnder_35 : decode cX7_liesUnder 35 = .ok (.iload_n 2, 1) := by decide +kernel
theorem dX7_liesUnder_36 : decode cX7_liesUnder 36 = .ok (.if_icmp .ne 7, 3) := by decide +kernel
theorem dX7_liesUnder_39 : decode cX7_liesUnder 39 = .ok (.iconst 1, 1) := by decide +kernel
theorem dX7_liesUnder_40 : decode cX7_liesUnder 40 = .ok (.goto 4, 3) := by decide +kernel
theorem dX7_liesUnder_43 : decode cX7_liesUnder 43 = .ok (.iconst 0, 1) := by decide +kernel
theorem dX7_liesUnder_44 : decode cX7_liesUnder 44 = .ok (.ireturn, 1) := by decide +kernel
theorem dX7_nodeAbove_0 : decode cX7_nodeAbove 0 = .ok (.iload_n 1, 1) := by decide +kernel
theorem dX7_nodeAbove_1 : decode cX7_nodeAbove 1 = .ok (.ifCond .lt 20, 3) := by decide +kernel
theorem dX7_nodeAbove_4 : decode cX7_nodeAbove 4 = .ok (.iload_n 1, 1) := by decide +kernel
theorem dX7_nodeAbove_5 : decode cX7_nodeAbove 5 = .ok (.aload_n 0, 1) := by decide +kernel
theorem dX7_nodeAbove_6 : decode cX7_nodeAbove 6 = .ok (.getfield 34, 3) := by decide +kernel
theorem dX7_nodeAbove_9 : decode cX7_nodeAbove 9 = .ok (.if_icmp .ge 12, 3) := by decide +kernel
theorem dX7_nodeAbove_12 : decode cX7_nodeAbove 12 = .ok (.aload_n 0, 1) := by decide +kernel
theorem dX7_nodeAbove_13 : decode cX7_nodeAbove 13 = .ok (.getfield 18, 3) := by decide +kernel
theorem dX7_nodeAbove_16 : decode cX7_nodeAbove 16 = .ok (.iload_n 1, 1) := by decide +kernel
theorem dX7_nodeAbove_17 : decode cX7_nodeAbove 17 = .ok (.iaload, 1) := by decide +kernel
theorem dX7_nodeAbove_18 : decode cX7_nodeAbove 18 = .ok (.goto 4, 3) := by decide +kernel
theorem dX7_nodeAbove_21 : decode cX7_nodeAbove 21 = .ok (.iconst (-1), 1) := by decide +kernel
theorem dX7_nodeAbove_22 : decode cX7_nodeAbove 22 = .ok (.ireturn, 1) := by decide +kernel
theorem dX7_numberOf_0 : decode cX7_numberOf 0 = .ok (.aload_n 0, 1) := by decide +kernel
theorem dX7_numberOf_1 : decode cX7_numberOf 1 = .ok (.iload_n 1, 1) := by decide +kernel
theorem dX7_numberOf_2 : decode cX7_numberOf 2 = .ok (.invokevirtual 54, 3) := by decide +kernel
theorem dX7_numberOf_5 : decode cX7_numberOf 5 = .ok (.ifCond .eq 12, 3) := by decide +kernel
theorem dX7_numberOf_8 : decode cX7_numberOf 8 = .ok (.aload_n 0, 1) := by decide +kernel
theorem dX7_numberOf_9 : decode cX7_numberOf 9 = .ok (.getfield 27, 3) := by decide +kernel
theorem dX7_numberOf_12 : decode cX7_numberOf 12 = .ok (.iload_n 1, 1) := by decide +kernel
theorem dX7_numberOf_13 : decode cX7_numberOf 13 = .ok (.iaload, 1) := by decide +kernel
theorem dX7_numberOf_14 : decode cX7_numberOf 14 = .ok (.goto 4, 3) := by decide +kernel
theorem dX7_numberOf_17 : decode cX7_numberOf 17 = .ok (.iconst (-1), 1) := by decide +kernel
theorem dX7_numberOf_18 : decode cX7_numberOf 18 = .ok (.ireturn, 1) := by decide +kernel
theorem dX7_isNode_0 : decode cX7_isNode 0 = .ok (.iload_n 1, 1) := by decide +kernel
theorem dX7_isNode_1 : decode cX7_isNode 1 = .ok (.ifCond .lt 15, 3) := by decide +kernel
theorem dX7_isNode_4 : decode cX7_isNode 4 = .ok (.iload_n 1, 1) := by decide +kernel
theorem dX7_isNode_5 : decode cX7_isNode 5 = .ok (.aload_n 0, 1) := by decide +kernel
theorem dX7_isNode_6 : decode cX7_isNode 6 = .ok (.getfield 34, 3) := by decide +kernel
theorem dX7_isNode_9 : decode cX7_isNode 9 = .ok (.if_icmp .ge 7, 3) := by decide +kernel
theorem dX7_isNode_12 : decode cX7_isNode 12 = .ok (.iconst 1, 1) := by decide +kernel
theorem dX7_isNode_13 : decode cX7_isNode 13 = .ok (.goto 4, 3) := by decide +kernel
theorem dX7_isNode_16 : decode cX7_isNode 16 = .ok (.iconst 0, 1) := by decide +kernel
theorem dX7_isNode_17 : decode cX7_isNode 17 = .ok (.ireturn, 1) := by decide +kernel
theorem dX8_init_0 : decode cX8_init 0 = .ok (.aload_n 0, 1) := by decide +kernel
theorem dX8_init_1 : decode cX8_init 1 = .ok (.invokespecial 3, 3) := by decide +kernel
theorem dX8_init_4 : decode cX8_init 4 = .ok (.aload_n 0, 1) := by decide +kernel
theorem dX8_init_5 : decode cX8_init 5 = .ok (.bipush 40, 2) := by decide +kernel
theorem dX8_init_7 : decode cX8_init 7 = .ok (.newarray .int, 2) := by decide +kernel
theorem dX8_init_9 : decode cX8_init 9 = .ok (.putfield 9, 3) := by decide +kernel
theorem dX8_init_12 : decode cX8_init 12 = .ok (.aload_n 0, 1) := by decide +kernel
theorem dX8_init_13 : decode cX8_init 13 = .ok (.bipush 40, 2) := by decide +kernel
theorem dX8_init_15 : decode cX8_init 15 = .ok (.newarray .int, 2) := by decide +kernel
theorem dX8_init_17 : decode cX8_init 17 = .ok (.putfield 15, 3) := by decide +kernel
theorem dX8_init_20 : decode cX8_init 20 = .ok (.aload_n 0, 1) := by decide +kernel
theorem dX8_init_21 : decode cX8_init 21 = .ok (.bipush 40, 2) := by decide +kernel
theorem dX8_init_23 : decode cX8_init 23 = .ok (.newarray .int, 2) := by decide +kernel
theorem dX8_init_25 : decode cX8_init 25 = .ok (.putfield 18, 3) := by decide +kernel
theorem dX8_init_28 : decode cX8_init 28 = .ok (.aload_n 0, 1) := by decide +kernel
theorem dX8_init_29 : decode cX8_init 29 = .ok (.bipush 40, 2) := by decide +kernel
theorem dX8_init_31 : decode cX8_init 31 = .ok (.newarray .int, 2) := by decide +kernel
theorem dX8_init_33 : decode cX8_init 33 = .ok (.putfield 21, 3) := by decide +kernel
theorem dX8_init_36 : decode cX8_init 36 = .ok (.aload_n 0, 1) := by decide +kernel
theorem dX8_init_37 : decode cX8_init 37 = .ok (.bipush 40, 2) := by decide +kernel
theorem dX8_init_39 : decode cX8_init 39 = .ok (.newarray .int, 2) := by decide +kernel
theorem dX8_init_41 : decode cX8_init 41 = .ok (.putfield 24, 3) := by decide +kernel
theorem dX8_init_44 : decode cX8_init 44 = .ok (.aload_n 0, 1) := by decide +kernel
theorem dX8_init_45 : decode cX8_init 45 = .ok (.bipush 40, 2) := by decide +kernel
theorem dX8_init_47 : decode cX8_init 47 = .ok (.newarray .int, 2) := by decide +kernel
theorem dX8_init_49 : decode cX8_init 49 = .ok (.putfield 27, 3) := by decide +kernel
theorem dX8_init_52 : decode cX8_init 52 = .ok (.aload_n 0, 1) := by decide +kernel
theorem dX8_init_53 : decode cX8_init 53 = .ok (.bipush 40, 2) := by decide +kernel
theorem dX8_init_55 : decode cX8_init 55 = .ok (.newarray .int, 2) := by decide +kernel
theorem dX8_init_57 : decode cX8_init 57 = .ok (.putfield 30, 3) := by decide +kernel
theorem dX8_init_60 : decode cX8_init 60 = .ok (.aload_n 0, 1) := by decide +kernel
theorem dX8_init_61 : decode cX8_init 61 = .ok (.iconst 4, 1) := by decide +kernel
theorem dX8_init_62 : decode cX8_init 62 = .ok (.newarray .int, 2) := by decide +kernel
theorem dX8_init_64 : decode cX8_init 64 = .ok (.putfield 33, 3) := by decide +kernel
theorem dX8_init_67 : decode cX8_init 67 = .ok (.aload_n 0, 1) := by decide +kernel
theorem dX8_init_68 : decode cX8_init 68 = .ok (.invokevirtual 36, 3) := by decide +kernel
theorem dX8_init_71 : decode cX8_init 71 = .ok (.return_, 1) := by decide +kernel
theorem dX8_removeAll_0 : decode cX8_removeAll 0 = .ok (.aload_n 0, 1) := by decide +kernel
theorem dX8_removeAll_1 : decode cX8_removeAll 1 = .ok (.iconst 0, 1) := by decide +kernel
theorem dX8_removeAll_2 : decode cX8_removeAll 2 = .ok (.putfield 39, 3) := by decide +kernel
theorem dX8_removeAll_5 : decode cX8_removeAll 5 = .ok (.iconst 0, 1) := by decide +kernel
theorem dX8_removeAll_6 : decode cX8_removeAll 6 = .ok (.istore_n 1, 1) := by decide +kernel
theorem dX8_removeAll_7 : decode cX8_removeAll 7 = .ok (.iload_n 1, 1) := by decide +kernel
theorem dX8_removeAll_8 : decode cX8_removeAll 8 = .ok (.iconst 4, 1) := by decide +kernel
theorem dX8_removeAll_9 : decode cX8_removeAll 9 = .ok (.if_icmp .ge 16, 3) := by decide +kernel
theorem dX8_removeAll_12 : decode cX8_removeAll 12 = .ok (.aload_n 0, 1) := by decide +kernel
theorem dX8_removeAll_13 : decode cX8_removeAll 13 = .ok (.getfield 33, 3) := by decide +kernel
theorem dX8_removeAll_16 : decode cX8_removeAll 16 = .ok (.iload_n 1, 1) := by decide +kernel
theorem dX8_removeAll_17 : decode cX8_removeAll 17 = .ok (.iconst (-1), 1) := by decide +kernel
theorem dX8_removeAll_18 : decode cX8_removeAll 18 = .ok (.iastore, 1) := by decide +kernel
theorem dX8_removeAll_19 : decode cX8_removeAll 19 = .ok (.iinc 1 1, 3) := by decide +kernel
theorem dX8_removeAll_22 : decode cX8_removeAll 22 = .ok (.goto (-15), 3) := by decide +kernel
theorem dX8_removeAll_25 : decode cX8_removeAll 25 = .ok (.return_, 1) := by decide +kernel
theorem dX8_add_0 : decode cX8_add 0 = .ok (.aload_n 0, 1) := by decide +kernel
theorem dX8_add_1 : decode cX8_add 1 = .ok (.getfield 39, 3) := by decide +kernel
theorem dX8_add_4 : decode cX8_add 4 = .ok (.ifCond .lt 20, 3) := by decide +kernel
theorem dX8_add_7 : decode cX8_add 7 = .ok (.aload_n 0, 1) := by decide +kernel
theorem dX8_add_8 : decode cX8_add 8 = .ok (.getfield 39, 3) := by decide +kernel
theorem dX8_add_11 : decode cX8_add 11 = .ok (.bipush 40, 2) := by decide +kernel
theorem dX8_add_13 : decode cX8_add 13 = .ok (.if_icmp .ge 11, 3) := by decide +kernel
theorem dX8_add_16 : decode cX8_add 16 = .ok (.iload 6, 2) := by decide +kernel
theorem dX8_add_18 : decode cX8_add 18 = .ok (.invokestatic 43, 3) := by decide +kernel
theorem dX8_add_21 : decode cX8_add 21 = .ok (.ifCond .ne 5, 3) := by decide +kernel
theorem dX8_add_24 : decode cX8_add 24 = .ok (.iconst (-1), 1) := by decide +kernel
theorem dX8_add_25 : decode cX8_add 25 = .ok (.ireturn, 1) := by decide +kernel
theorem dX8_add_26 : decode cX8_add 26 = .ok (.aload_n 0, 1) := by decide +kernel
theorem dX8_add_27 : decode cX8_add 27 = .ok (.getfield 39, 3) := by decide +kernel
theorem dX8_add_30 : decode cX8_add 30 = .ok (.istore 7, 2) := by decide +kernel
theorem dX8_add_32 : decode cX8_add 32 = .ok (.aload_n 0, 1) := by decide +kernel
theorem dX8_add_33 : decode cX8_add 33 = .ok (.getfield 9, 3) := by decide +kernel
theorem dX8_add_36 : decode cX8_add 36 = .ok (.iload 7, 2) := by decide +kernel
theorem dX8_add_38 : decode cX8_add 38 = .ok (.iload_n 1, 1) := by decide +kernel
theorem dX8_add_39 : decode cX8_add 39 = .ok (.iastore, 1) := by decide +kernel
theorem dX8_add_40 : decode cX8_add 40 = .ok (.aload_n 0, 1) := by decide +kernel
theorem dX8_add_41 : decode cX8_add 41 = .ok (.getfield 15, 3) := by decide +kernel
theorem dX8_add_44 : decode cX8_add 44 = .ok (.iload 7, 2) := by decide +kernel
theorem dX8_add_46 : decode cX8_add 46 = .ok (.iload_n 2, 1) := by decide +kernel
theorem dX8_add_47 : decode cX8_add 47 = .ok (.iastore, 1) := by decide +kernel
theorem dX8_add_48 : decode cX8_add 48 = .ok (.aload_n 0, 1) := by decide +kernel
theorem dX8_add_49 : decode cX8_add 49 = .ok (.getfield 18, 3) := by decide +kernel
theorem dX8_add_52 : decode cX8_add 52 = .ok (.iload 7, 2) := by decide +kernel
theorem dX8_add_54 : decode cX8_add 54 = .ok (.iload_n 3, 1) := by decide +kernel
theorem dX8_add_55 : decode cX8_add 55 = .ok (.iastore, 1) := by decide +kernel
theorem dX8_add_56 : decode cX8_add 56 = .ok (.aload_n 0, 1) := by decide +kernel
theorem dX8_add_57 : decode cX8_add 57 = .ok (.getfield 21, 3) := by decide +kernel
theorem dX8_add_60 : decode cX8_add 60 = .ok (.iload 7, 2) := by decide +kernel
theorem dX8_add_62 : decode cX8_add 62 = .ok (.iload 4, 2) := by decide +kernel
theorem dX8_add_64 : decode cX8_add 64 = .ok (.iastore, 1) := by decide +kernel
theorem dX8_add_65 : decode cX8_add 65 = .ok (.aload_n 0, 1) := by decide +kernel
theorem dX8_add_66 : decode cX8_add 66 = .ok (.getfield 24, 3) := by decide +kernel
theorem dX8_add_69 : decode cX8_add 69 = .ok (.iload 7, 2) := by decide +kernel
theorem dX8_add_71 : decode cX8_add 71 = .ok (.iload 5, 2) := by decide +kernel
theorem dX8_add_73 : decode cX8_add 73 = .ok (.iastore, 1) := by decide +kernel
theorem dX8_add_74 : decode cX8_add 74 = .ok (.aload_n 0, 1) := by decide +kernel
theorem dX8_add_75 : decode cX8_add 75 = .ok (.getfield 27, 3) := by decide +kernel
theorem dX8_add_78 : decode cX8_add 78 = .ok (.iload 7, 2) := by decide +kernel
theorem dX8_add_80 : decode cX8_add 80 = .ok (.iload 6, 2) := by decide +kernel
theorem dX8_add_82 : decode cX8_add 82 = .ok (.iastore, 1) := by decide +kernel
theorem dX8_add_83 : decode cX8_add 83 = .ok (.aload_n 0, 1) := by decide +kernel
theorem dX8_add_84 : decode cX8_add 84 = .ok (.getfield 30, 3) := by decide +kernel
theorem dX8_add_87 : decode cX8_add 87 = .ok (.iload 7, 2) := by decide +kernel
theorem dX8_add_89 : decode cX8_add 89 = .ok (.iconst (-1), 1) := by decide +kernel
theorem dX8_add_90 : decode cX8_add 90 = .ok (.iastore, 1) := by decide +kernel
theorem dX8_add_91 : decode cX8_add 91 = .ok (.aload_n 0, 1) := by decide +kernel
theorem dX8_add_92 : decode cX8_add 92 = .ok (.getfield 33, 3) := by decide +kernel
theorem dX8_add_95 : decode cX8_add 95 = .ok (.iload 6, 2) := by decide +kernel
theorem dX8_add_97 : decode cX8_add 97 = .ok (.iaload, 1) := by decide +kernel
theorem dX8_add_98 : decode cX8_add 98 = .ok (.istore 8, 2) := by decide +kernel
theorem dX8_add_100 : decode cX8_add 100 = .ok (.iload 8, 2) := by decide +kernel
theorem dX8_add_102 : decode cX8_add 102 = .ok (.ifCond .lt 19, 3) := by decide +kernel
theorem dX8_add_105 : decode cX8_add 105 = .ok (.iload 8, 2) := by decide +kernel
theorem dX8_add_107 : decode cX8_add 107 = .ok (.iload 7, 2) := by decide +kernel
theorem dX8_add_109 : decode cX8_add 109 = .ok (.if_icmp .ge 12, 3) := by decide +kernel
theorem dX8_add_112 : decode cX8_add 112 = .ok (.aload_n 0, 1) := by decide +kernel
theorem dX8_add_113 : decode cX8_add 113 = .ok (.getfield 30, 3) := by decide +kernel
theorem dX8_add_116 : decode cX8_add 116 = .ok (.iload 8, 2) := by decide +kernel
theorem dX8_add_118 : decode cX8_add 118 = .ok (.iload 7, 2) := by decide +kernel
theorem dX8_add_120 : decode cX8_add 120 = .ok (.iastore, 1) := by decide +kernel
theorem dX8_add_121 : decode cX8_add 121 = .ok (.aload_n 0, 1) := by decide +kernel
theorem dX8_add_122 : decode cX8_add 122 = .ok (.getfield 33, 3) := by decide +kernel
theorem dX8_add_125 : decode cX8_add 125 = .ok (.iload 6, 2) := by decide +kernel
theorem dX8_add_127 : decode cX8_add 127 = .ok (.iload 7, 2) := by decide +kernel
theorem dX8_add_129 : decode cX8_add 129 = .ok (.iastore, 1) := by decide +kernel
theorem dX8_add_130 : decode cX8_add 130 = .ok (.aload_n 0, 1) := by decide +kernel
theorem dX8_add_131 : decode cX8_add 131 = .ok (.dup, 1) := by decide +kernel
theorem dX8_add_132 : decode cX8_add 132 = .ok (.getfield 39, 3) := by decide +kernel
theorem dX8_add_135 : decode cX8_add 135 = .ok (.iconst 1, 1) := by decide +kernel
theorem dX8_add_136 : decode cX8_add 136 = .ok (.iadd, 1) := by decide +kernel
theorem dX8_add_137 : decode cX8_add 137 = .ok (.putfield 39, 3) := by decide +kernel
theorem dX8_add_140 : decode cX8_add 140 = .ok (.iload 7, 2) := by decide +kernel
theorem dX8_add_142 : decode cX8_add 142 = .ok (.ireturn, 1) := by decide +kernel
theorem dX8_putRight_0 : decode cX8_putRight 0 = .ok (.iload_n 1, 1) := by decide +kernel
theorem dX8_putRight_1 : decode cX8_putRight 1 = .ok (.ifCond .lt 18, 3) := by decide +kernel
theorem dX8_putRight_4 : decode cX8_putRight 4 = .ok (.iload_n 1, 1) := by decide +kernel
theorem dX8_putRight_5 : decode cX8_putRight 5 = .ok (.aload_n 0, 1) := by decide +kernel
theorem dX8_putRight_6 : decode cX8_putRight 6 = .ok (.getfield 39, 3) := by decide +kernel
theorem dX8_putRight_9 : decode cX8_putRight 9 = .ok (.if_icmp .ge 10, 3) := by decide +kernel
theorem dX8_putRight_12 : decode cX8_putRight 12 = .ok (.aload_n 0, 1) := by decide +kernel
theorem dX8_putRight_13 : decode cX8_putRight 13 = .ok (.getfield 18, 3) := by decide +kernel
theorem dX8_putRight_16 : decode cX8_putRight 16 = .ok (.iload_n 1, 1) := by decide +kernel
theorem dX8_putRight_17 : decode cX8_putRight 17 = .ok (.iload_n 2, 1) := by decide +kernel
theorem dX8_putRight_18 : decode cX8_putRight 18 = .ok (.iastore, 1) := by decide +kernel
theorem dX8_putRight_19 : decode cX8_putRight 19 = .ok (.return_, 1) := by decide +kernel
theorem dX9_init_0 : decode cX9_init 0 = .ok (.aload_n 0, 1) := by decide +kernel
theorem dX9_init_1 : decode cX9_init 1 = .ok (.invokespecial 1, 3) := by decide +kernel
theorem dX9_init_4 : decode cX9_init 4 = .ok (.aload_n 0, 1) := by decide +kernel
theorem dX9_init_5 : decode cX9_init 5 = .ok (.new 7, 3) := by decide +kernel
theorem dX9_init_8 : decode cX9_init 8 = .ok (.dup, 1) := by decide +kernel
theorem dX9_init_9 : decode cX9_init 9 = .ok (.invokespecial 9, 3) := by decide +kernel
theorem dX9_init_12 : decode cX9_init 12 = .ok (.putfield 10, 3) := by decide +kernel
theorem dX9_init_15 : decode cX9_init 15 = .ok (.aload_n 0, 1) := by decide +kernel
theorem dX9_init_16 : decode cX9_init 16 = .ok (.new 16, 3) := by decide +kernel
theorem dX9_init_19 : decode cX9_init 19 = .ok (.dup, 1) := by decide +kernel
theorem dX9_init_20 : decode cX9_init 20 = .ok (.invokespecial 18, 3) := by decide +kernel
theorem dX9_init_23 : decode cX9_init 23 = .ok (.putfield 19, 3) := by decide +kernel
theorem dX9_init_26 : decode cX9_init 26 = .ok (.aload_n 0, 1) := by decide +kernel
theorem dX9_init_27 : decode cX9_init 27 = .ok (.new 23, 3) := by decide +kernel
theorem dX9_init_30 : decode cX9_init 30 = .ok (.dup, 1) := by decide +kernel
theorem dX9_init_31 : decode cX9_init 31 = .ok (.invokespecial 25, 3) := by decide +kernel
theorem dX9_init_34 : decode cX9_init 34 = .ok (.putfield 26, 3) := by decide +kernel
theorem dX9_init_37 : decode cX9_init 37 = .ok (.aload_n 0, 1) := by decide +kernel
theorem dX9_init_38 : decode cX9_init 38 = .ok (.new 30, 3) := by decide +kernel
theorem dX9_init_41 : decode cX9_init 41 = .ok (.dup, 1) := by decide +kernel
theorem dX9_init_42 : decode cX9_init 42 = .ok (.invokespecial 32, 3) := by decide +kernel
theorem dX9_init_45 : decode cX9_init 45 = .ok (.putfield 33, 3) := by decide +kernel
theorem dX9_init_48 : decode cX9_init 48 = .ok (.aload_n 0, 1) := by decide +kernel
theorem dX9_init_49 : decode cX9_init 49 = .ok (.bipush 6, 2) := by decide +kernel
theorem dX9_init_51 : decode cX9_init 51 = .ok (.newarray .int, 2) := by decide +kernel
theorem dX9_init_53 : decode cX9_init 53 = .ok (.putfield 37, 3) := by decide +kernel
theorem dX9_init_56 : decode cX9_init 56 = .ok (.iconst 0, 1) := by decide +kernel
theorem dX9_init_57 : decode cX9_init 57 = .ok (.istore_n 1, 1) := by decide +kernel
theorem dX9_init_58 : decode cX9_init 58 = .ok (.iload_n 1, 1) := by decide +kernel
theorem dX9_init_59 : decode cX9_init 59 = .ok (.bipush 6, 2) := by decide +kernel
theorem dX9_init_61 : decode cX9_init 61 = .ok (.if_icmp .ge 16, 3) := by decide +kernel
theorem dX9_init_64 : decode cX9_init 64 = .ok (.aload_n 0, 1) := by decide +kernel
theorem dX9_init_65 : decode cX9_init 65 = .ok (.getfield 37, 3) := by decide +kernel
theorem dX9_init_68 : decode cX9_init 68 = .ok (.iload_n 1, 1) := by decide +kernel
theorem dX9_init_69 : decode cX9_init 69 = .ok (.iload_n 1, 1) := by decide +kernel
theorem dX9_init_70 : decode cX9_init 70 = .ok (.iastore, 1) := by decide +kernel
theorem dX9_init_71 : decode cX9_init 71 = .ok (.iinc 1 1, 3) := by decide +kernel
theorem dX9_init_74 : decode cX9_init 74 = .ok (.goto (-16), 3) := by decide +kernel
theorem dX9_init_77 : decode cX9_init 77 = .ok (.aload_n 0, 1) := by decide +kernel
theorem dX9_init_78 : decode cX9_init 78 = .ok (.new 41, 3) := by decide +kernel
theorem dX9_init_81 : decode cX9_init 81 = .ok (.dup, 1) := by decide +kernel
theorem dX9_init_82 : decode cX9_init 82 = .ok (.aload_n 0, 1) := by decide +kernel
theorem dX9_init_83 : decode cX9_init 83 = .ok (.getfield 10, 3) := by decide +kernel
theorem dX9_init_86 : decode cX9_init 86 = .ok (.aload_n 0, 1) := by decide +kernel
theorem dX9_init_87 : decode cX9_init 87 = .ok (.getfield 19, 3) := by decide +kernel
theorem dX9_init_90 : decode cX9_init 90 = .ok (.aload_n 0, 1) := by decide +kernel
theorem dX9_init_91 : decode cX9_init 91 = .ok (.getfield 26, 3) := by decide +kernel
theorem dX9_init_94 : decode cX9_init 94 = .ok (.aload_n 0, 1) := by decide +kernel
theorem dX9_init_95 : decode cX9_init 95 = .ok (.getfield 37, 3) := by decide +kernel
theorem dX9_init_98 : decode cX9_init 98 = .ok (.invokespecial 43, 3) := by decide +kernel
theorem dX9_init_101 : decode cX9_init 101 = .ok (.putfield 46, 3) := by decide +kernel
theorem dX9_init_104 : decode cX9_init 104 = .ok (.aload_n 0, 1) := by decide +kernel
theorem dX9_init_105 : decode cX9_init 105 = .ok (.new 50, 3) := by decide +kernel
theorem dX9_init_108 : decode cX9_init 108 = .ok (.dup, 1) := by decide +kernel
theorem dX9_init_109 : decode cX9_init 109 = .ok (.aload_n 0, 1) := by decide +kernel
theorem dX9_init_110 : decode cX9_init 110 = .ok (.getfield 10, 3) := by decide +kernel
theorem dX9_init_113 : decode cX9_init 113 = .ok (.aload_n 0, 1) := by decide +kernel
theorem dX9_init_114 : decode cX9_init 114 = .ok (.getfield 19, 3) := by decide +kernel
theorem dX9_init_117 : decode cX9_init 117 = .ok (.invokespecial 52, 3) := by decide +kernel
theorem dX9_init_120 : decode cX9_init 120 = .ok (.putfield 55, 3) := by decide +kernel
theorem dX9_init_123 : decode cX9_init 123 = .ok (.aload_n 0, 1) := by decide +kernel
theorem dX9_init_124 : decode cX9_init 124 = .ok (.new 59, 3) := by decide +kernel
theorem dX9_init_127 : decode cX9_init 127 = .ok (.dup, 1) := by decide +kernel
theorem dX9_init_128 : decode cX9_init 128 = .ok (.aload_n 0, 1) := by decide +kernel
theorem dX9_init_129 : decode cX9_init 129 = .ok (.getfield 19, 3) := by decide +kernel
theorem dX9_init_132 : decode cX9_init 132 = .ok (.aload_n 0, 1) := by decide +kernel
theorem dX9_init_133 : decode cX9_init 133 = .ok (.getfield 46, 3) := by decide +kernel
theorem dX9_init_136 : decode cX9_init 136 = .ok (.aload_n 0, 1) := by decide +kernel
theorem dX9_init_137 : decode cX9_init 137 = .ok (.getfield 55, 3) := by decide +kernel
theorem dX9_init_140 : decode cX9_init 140 = .ok (.invokespecial 61, 3) := by decide +kernel
theorem dX9_init_143 : decode cX9_init 143 = .ok (.putfield 64, 3) := by decide +kernel
theorem dX9_init_146 : decode cX9_init 146 = .ok (.return_, 1) := by decide +kernel
theorem dX9_unit_0 : decode cX9_unit 0 = .ok (.iload_n 1, 1) := by decide +kernel
theorem dX9_unit_1 : decode cX9_unit 1 = .ok (.invokestatic 68, 3) := by decide +kernel
theorem dX9_unit_4 : decode cX9_unit 4 = .ok (.ifCond .eq 53, 3) := by decide +kernel
theorem dX9_unit_7 : decode cX9_unit 7 = .ok (.iload_n 2, 1) := by decide +kernel
theorem dX9_unit_8 : decode cX9_unit 8 = .ok (.iconst 0, 1) := by decide +kernel
theorem dX9_unit_9 : decode cX9_unit 9 = .ok (.bipush 6, 2) := by decide +kernel
theorem dX9_unit_11 : decode cX9_unit 11 = .ok (.invokestatic 72, 3) := by decide +kernel
theorem dX9_unit_14 : decode cX9_unit 14 = .ok (.ifCond .eq 43, 3) := by decide +kernel
theorem dX9_unit_17 : decode cX9_unit 17 = .ok (.iload_n 3, 1) := by decide +kernel
theorem dX9_unit_18 : decode cX9_unit 18 = .ok (.iconst 0, 1) := by decide +kernel
theorem dX9_unit_19 : decode cX9_unit 19 = .ok (.bipush 6, 2) := by decide +kernel
theorem dX9_unit_21 : decode cX9_unit 21 = .ok (.invokestatic 72, 3) := by decide +kernel
theorem dX9_unit_24 : decode cX9_unit 24 = .ok (.ifCond .eq 33, 3) := by decide +kernel
theorem dX9_unit_27 : decode cX9_unit 27 = .ok (.iload 4, 2) := by decide +kernel
theorem dX9_unit_29 : decode cX9_unit 29 = .ok (.iconst 0, 1) := by decide +kernel
theorem dX9_unit_30 : decode cX9_unit 30 = .ok (.bipush 9, 2) := by decide +kernel
theorem dX9_unit_32 : decode cX9_unit 32 = .ok (.invokestatic 72, 3) := by decide +kernel
theorem dX9_unit_35 : decode cX9_unit 35 = .ok (.ifCond .eq 22, 3) := by decide +kernel
theorem dX9_unit_38 : decode cX9_unit 38 = .ok (.iload 5, 2) := by decide +kernel
theorem dX9_unit_40 : decode cX9_unit 40 = .ok (.iconst 1, 1) := by decide +kernel
theorem dX9_unit_41 : decode cX9_unit 41 = .ok (.bipush 9, 2) := by decide +kernel
theorem dX9_unit_43 : decode cX9_unit 43 = .ok (.invokestatic 72, 3) := by decide +kernel
theorem dX9_unit_46 : decode cX9_unit 46 = .ok (.ifCond .eq 11, 3) := by decide +kernel
theorem dX9_unit_49 : decode cX9_unit 49 = .ok (.iload 6, 2) := by decide +kernel
theorem dX9_unit_51 : decode cX9_unit 51 = .ok (.invokestatic 76, 3) := by decide +kernel
theorem dX9_unit_54 : decode cX9_unit 54 = .ok (.ifCond .ne 8, 3) := by decide +kernel
theorem dX9_unit_57 : decode cX9_unit 57 = .ok (.aload_n 0, 1) := by decide +kernel
theorem dX9_unit_58 : decode cX9_unit 58 = .ok (.invokevirtual 79, 3) := by decide +kernel
theorem dX9_unit_61 : decode cX9_unit 61 = .ok (.ireturn, 1) := by decide +kernel
theorem dX9_unit_62 : decode cX9_unit 62 = .ok (.aload_n 0, 1) := by decide +kernel
theorem dX9_unit_63 : decode cX9_unit 63 = .ok (.getfield 10, 3) := by decide +kernel
theorem dX9_unit_66 : decode cX9_unit 66 = .ok (.getfield 83, 3) := by decide +kernel
theorem dX9_unit_69 : decode cX9_unit 69 = .ok (.bipush 40, 2) := by decide +kernel
theorem dX9_unit_71 : decode cX9_unit 71 = .ok (.if_icmp .lt 8, 3) := by decide +kernel
theorem dX9_unit_74 : decode cX9_unit 74 = .ok (.aload_n 0, 1) := by decide +kernel
theorem dX9_unit_75 : decode cX9_unit 75 = .ok (.invokevirtual 87, 3) := by decide +kernel
theorem dX9_unit_78 : decode cX9_unit 78 = .ok (.ireturn, 1) := by decide +kernel
theorem dX9_unit_79 : decode cX9_unit 79 = .ok (.aload_n 0, 1) := by decide +kernel
theorem dX9_unit_80 : decode cX9_unit 80 = .ok (.getfield 10, 3) := by decide +kernel
theorem dX9_unit_83 : decode cX9_unit 83 = .ok (.iload_n 1, 1) := by decide +kernel
theorem dX9_unit_84 : decode cX9_unit 84 = .ok (.iload_n 2, 1) := by decide +kernel
theorem dX9_unit_85 : decode cX9_unit 85 = .ok (.iload_n 3, 1) := by decide +kernel
theorem dX9_unit_86 : decode cX9_unit 86 = .ok (.iload 4, 2) := by decide +kernel
theorem dX9_unit_88 : decode cX9_unit 88 = .ok (.iload 5, 2) := by decide +kernel
theorem dX9_unit_90 : decode cX9_unit 90 = .ok (.iload 6, 2) := by decide +kernel
theorem dX9_unit_92 : decode cX9_unit 92 = .ok (.invokevirtual 90, 3) := by decide +kernel
theorem dX9_unit_95 : decode cX9_unit 95 = .ok (.ireturn, 1) := by decide +kernel
theorem dX9_records_0 : decode cX9_records 0 = .ok (.iload_n 1, 1) := by decide +kernel
theorem dX9_records_1 : decode cX9_records 1 = .ok (.iconst 0, 1) := by decide +kernel
theorem dX9_records_2 : decode cX9_records 2 = .ok (.ldc 94, 2) := by decide +kernel
theorem dX9_records_4 : decode cX9_records 4 = .ok (.invokestatic 72, 3) := by decide +kernel
theorem dX9_records_7 : decode cX9_records 7 = .ok (.ifCond .eq 20, 3) := by decide +kernel
theorem dX9_records_10 : decode cX9_records 10 = .ok (.iload_n 2, 1) := by decide +kernel
theorem dX9_records_11 : decode cX9_records 11 = .ok (.iconst 1, 1) := by decide +kernel
theorem dX9_records_12 : decode cX9_records 12 = .ok (.bipush 9, 2) := by decide +kernel
theorem dX9_records_14 : decode cX9_records 14 = .ok (.invokestatic 72, 3) := by decide +kernel
theorem dX9_records_17 : decode cX9_records 17 = .ok (.ifCond .eq 10, 3) := by decide +kernel
theorem dX9_records_20 : decode cX9_records 20 = .ok (.iload_n 3, 1) := by decide +kernel
theorem dX9_records_21 : decode cX9_records 21 = .ok (.invokestatic 76, 3) := by decide +kernel
theorem dX9_records_24 : decode cX9_records 24 = .ok (.ifCond .ne 8, 3) := by decide +kernel
theorem dX9_records_27 : decode cX9_records 27 = .ok (.aload_n 0, 1) := by decide +kernel
theorem dX9_records_28 : decode cX9_records 28 = .ok (.invokevirtual 79, 3) := by decide +kernel
theorem dX9_records_31 : decode cX9_records 31 = .ok (.ireturn, 1) := by decide +kernel
theorem dX9_records_32 : decode cX9_records 32 = .ok (.aload_n 0, 1) := by decide +kernel
theorem dX9_records_33 : decode cX9_records 33 = .ok (.getfield 10, 3) := by decide +kernel
theorem dX9_records_36 : decode cX9_records 36 = .ok (.getfield 83, 3) := by decide +kernel
theorem dX9_records_39 : decode cX9_records 39 = .ok (.iload_n 2, 1) := by decide +kernel
theorem dX9_records_40 : decode cX9_records 40 = .ok (.iadd, 1) := by decide +kernel
theorem dX9_records_41 : decode cX9_records 41 = .ok (.bipush 40, 2) := by decide +kernel
theorem dX9_records_43 : decode cX9_records 43 = .ok (.if_icmp .le 8, 3) := by decide +kernel
theorem dX9_records_46 : decode cX9_records 46 = .ok (.aload_n 0, 1) := by decide +kernel
theorem dX9_records_47 : decode cX9_records 47 = .ok (.invokevirtual 87, 3) := by decide +kernel
theorem dX9_records_50 : decode cX9_records 50 = .ok (.ireturn, 1) := by decide +kernel
theorem dX9_records_51 : decode cX9_records 51 = .ok (.iload_n 1, 1) := by decide +kernel
theorem dX9_records_52 : decode cX9_records 52 = .ok (.i2l, 1) := by decide +kernel
theorem dX9_records_53 : decode cX9_records 53 = .ok (.lstore 4, 2) := by decide +kernel
theorem dX9_records_55 : decode cX9_records 55 = .ok (.bipush 6, 2) := by decide +kernel
theorem dX9_records_57 : decode cX9_records 57 = .ok (.istore 6, 2) := by decide +kernel
theorem dX9_records_59 : decode cX9_records 59 = .ok (.iconst 0, 1) := by decide +kernel
theorem dX9_records_60 : decode cX9_records 60 = .ok (.istore 7, 2) := by decide +kernel
theorem dX9_records_62 : decode cX9_records 62 = .ok (.iload 7, 2) := by decide +kernel
theorem dX9_records_64 : decode cX9_records 64 = .ok (.iload_n 2, 1) := by decide +kernel
theorem dX9_records_65 : decode cX9_records 65 = .ok (.if_icmp .ge 108, 3) := by decide +kernel
theorem dX9_records_68 : decode cX9_records 68 = .ok (.lload 4, 2) := by decide +kernel
theorem dX9_records_70 : decode cX9_records 70 = .ok (.ldc2_w 95, 3) := by decide +kernel
theorem dX9_records_73 : decode cX9_records 73 = .ok (.lmul, 1) := by decide +kernel
theorem dX9_records_74 : decode cX9_records 74 = .ok (.ldc2_w 97, 3) := by decide +kernel
theorem dX9_records_77 : decode cX9_records 77 = .ok (.ladd, 1) := by decide +kernel
theorem dX9_records_78 : decode cX9_records 78 = .ok (.ldc2_w 99, 3) := by decide +kernel
theorem dX9_records_81 : decode cX9_records 81 = .ok (.lrem, 1) := by decide +kernel
theorem dX9_records_82 : decode cX9_records 82 = .ok (.lstore 4, 2) := by decide +kernel
theorem dX9_records_84 : decode cX9_records 84 = .ok (.lload 4, 2) := by decide +kernel
theorem dX9_records_86 : decode cX9_records 86 = .ok (.ldc2_w 101, 3) := by decide +kernel
theorem dX9_records_89 : decode cX9_records 89 = .ok (.ldiv, 1) := by decide +kernel
theorem dX9_records_90 : decode cX9_records 90 = .ok (.ldc2_w 103, 3) := by decide +kernel
theorem dX9_records_93 : decode cX9_records 93 = .ok (.lrem, 1) := by decide +kernel
theorem dX9_records_94 : decode cX9_records 94 = .ok (.l2i, 1) := by decide +kernel
theorem dX9_records_95 : decode cX9_records 95 = .ok (.istore 8, 2) := by decide +kernel
theorem dX9_records_97 : decode cX9_records 97 = .ok (.lload 4, 2) := by decide +kernel
theorem dX9_records_99 : decode cX9_records 99 = .ok (.ldc2_w 105, 3) := by decide +kernel
theorem dX9_records_102 : decode cX9_records 102 = .ok (.ldiv, 1) := by decide +kernel
theorem dX9_records_103 : decode cX9_records 103 = .ok (.ldc2_w 107, 3) := by decide +kernel
theorem dX9_records_106 : decode cX9_records 106 = .ok (.lrem, 1) := by decide +kernel
theorem dX9_records_107 : decode cX9_records 107 = .ok (.l2i, 1) := by decide +kernel
theorem dX9_records_108 : decode cX9_records 108 = .ok (.istore 9, 2) := by decide +kernel
theorem dX9_records_110 : decode cX9_records 110 = .ok (.lload 4, 2) := by decide +kernel
theorem dX9_records_112 : decode cX9_records 112 = .ok (.ldc2_w 109, 3) := by decide +kernel
theorem dX9_records_115 : decode cX9_records 115 = .ok (.ldiv, 1) := by decide +kernel
theorem dX9_records_116 : decode cX9_records 116 = .ok (.ldc2_w 111, 3) := by decide +kernel
theorem dX9_records_119 : decode cX9_records 119 = .ok (.lrem, 1) := by decide +kernel
theorem dX9_records_120 : decode cX9_records 120 = .ok (.l2i, 1) := by decide +kernel
theorem dX9_records_121 : decode cX9_records 121 = .ok (.iconst 1, 1) := by decide +kernel
theorem dX9_records_122 : decode cX9_records 122 = .ok (.iadd, 1) := by decide +kernel
theorem dX9_records_123 : decode cX9_records 123 = .ok (.istore 10, 2) := by decide +kernel
theorem dX9_records_125 : decode cX9_records 125 = .ok (.aload_n 0, 1) := by decide +kernel
theorem dX9_records_126 : decode cX9_records 126 = .ok (.getfield 10, 3) := by decide +kernel
theorem dX9_records_129 : decode cX9_records 129 = .ok (.iload 8, 2) := by decide +kernel
theorem dX9_records_131 : decode cX9_records 131 = .ok (.iload 6, 2) := by decide +kernel
theorem dX9_records_133 : decode cX9_records 133 = .ok (.bipush 6, 2) := by decide +kernel
theorem dX9_records_135 : decode cX9_records 135 = .ok (.iload 9, 2) := by decide +kernel
theorem dX9_records_137 : decode cX9_records 137 = .ok (.iload 10, 2) := by decide +kernel
theorem dX9_records_139 : decode cX9_records 139 = .ok (.iload_n 3, 1) := by decide +kernel
theorem dX9_records_140 : decode cX9_records 140 = .ok (.invokevirtual 90, 3) := by decide +kernel
theorem dX9_records_143 : decode cX9_records 143 = .ok (.istore 11, 2) := by decide +kernel
theorem dX9_records_145 : decode cX9_records 145 = .ok (.iload 7, 2) := by decide +kernel
theorem dX9_records_147 : decode cX9_records 147 = .ok (.ifCond .le 16, 3) := by decide +kernel
theorem dX9_records_150 : decode cX9_records 150 = .ok (.aload_n 0, 1) := by decide +kernel
theorem dX9_records_151 : decode cX9_records 151 = .ok (.getfield 10, 3) := by decide +kernel
theorem dX9_records_154 : decode cX9_records 154 = .ok (.iload 11, 2) := by decide +kernel
theorem dX9_records_156 : decode cX9_records 156 = .ok (.iconst 1, 1) := by decide +kernel
theorem dX9_records_157 : decode cX9_records 157 = .ok (.isub, 1) := by decide +kernel
theorem dX9_records_158 : decode cX9_records 158 = .ok (.iload 8, 2) := by decide +kernel
theorem dX9_records_160 : decode cX9_records 160 = .ok (.invokevirtual 113, 3) := by decide +kernel
theorem dX9_records_163 : decode cX9_records 163 = .ok (.iload 8, 2) := by decide +kernel
theorem dX9_records_165 : decode cX9_records 165 = .ok (.istore 6, 2) := by decide +kernel
theorem dX9_records_167 : decode cX9_records 167 = .ok (.iinc 7 1, 3) := by decide +kernel
theorem dX9_records_170 : decode cX9_records 170 = .ok (.goto (-108), 3) := by decide +kernel
theorem dX9_records_173 : decode cX9_records 173 = .ok (.aload_n 0, 1) := by decide +kernel
theorem dX9_records_174 : decode cX9_records 174 = .ok (.getfield 10, 3) := by decide +kernel
theorem dX9_records_177 : decode cX9_records 177 = .ok (.getfield 83, 3) := by decide +kernel
theorem dX9_records_180 : decode cX9_records 180 = .ok (.ireturn, 1) := by decide +kernel
theorem dX9_of_0 : decode cX9_of 0 = .ok (.aload_n 0, 1) := by decide +kernel
theorem dX9_of_1 : decode cX9_of 1 = .ok (.iload_n 1, 1) := by decide +kernel
theorem dX9_of_2 : decode cX9_of 2 = .ok (.invokevirtual 117, 3) := by decide +kernel
theorem dX9_of_5 : decode cX9_of 5 = .ok (.ifCond .ne 8, 3) := by decide +kernel
theorem dX9_of_8 : decode cX9_of 8 = .ok (.aload_n 0, 1) := by decide +kernel
theorem dX9_of_9 : decode cX9_of 9 = .ok (.invokevirtual 79, 3) := by decide +kernel
theorem dX9_of_12 : decode cX9_of 12 = .ok (.ireturn, 1) := by decide +kernel
theorem dX9_of_13 : decode cX9_of 13 = .ok (.iload_n 2, 1) := by decide +kernel
theorem dX9_of_14 : decode cX9_of 14 = .ok (.tableswitch 112 0 6 #[42, 52, 62, 72, 82, 92, 102], 42) := by decide +kernel
theorem dX9_of_56 : decode cX9_of 56 = .ok (.aload_n 0, 1) := by decide +kernel
theorem dX9_of_57 : decode cX9_of 57 = .ok (.getfield 10, 3) := by decide +kernel
theorem dX9_of_60 : decode cX9_of 60 = .ok (.getfield 120, 3) := by decide +kernel
theorem dX9_of_63 : decode cX9_of 63 = .ok (.iload_n 1, 1) := by decide +kernel
theorem dX9_of_64 : decode cX9_of 64 = .ok (.iaload, 1) := by decide +kernel
theorem dX9_of_65 : decode cX9_of 65 = .ok (.ireturn, 1) := by decide +kernel
theorem dX9_of_66 : decode cX9_of 66 = .ok (.aload_n 0, 1) := by decide +kernel
theorem dX9_of_67 : decode cX9_of 67 = .ok (.getfield 10, 3) := by decide +kernel
theorem dX9_of_70 : decode cX9_of 70 = .ok (.getfield 123, 3) := by decide +kernel
theorem dX9_of_73 : decode cX9_of 73 = .ok (.iload_n 1, 1) := by decide +kernel
theorem dX9_of_74 : decode cX9_of 74 = .ok (.iaload, 1) := by decide +kernel
theorem dX9_of_75 : decode cX9_of 75 = .ok (.ireturn, 1) := by decide +kernel
theorem dX9_of_76 : decode cX9_of 76 = .ok (.aload_n 0, 1) := by decide +kernel
theorem dX9_of_77 : decode cX9_of 77 = .ok (.getfield 10, 3) := by decide +kernel
theorem dX9_of_80 : decode cX9_of 80 = .ok (.getfield 126, 3) := by decide +kernel
theorem dX9_of_83 : decode cX9_of 83 = .ok (.iload_n 1, 1) := by decide +kernel
theorem dX9_of_84 : decode cX9_of 84 = .ok (.iaload, 1) := by decide +kernel
theorem dX9_of_85 : decode cX9_of 85 = .ok (.ireturn, 1) := by decide +kernel
theorem dX9_of_86 : decode cX9_of 86 = .ok (.aload_n 0, 1) := by decide +kernel
theorem dX9_of_87 : decode cX9_of 87 = .ok (.getfield 10, 3) := by decide +kernel
theorem dX9_of_90 : decode cX9_of 90 = .ok (.getfield 129, 3) := by decide +kernel
theorem dX9_of_93 : decode cX9_of 93 = .ok (.iload_n 1, 1) := by decide +kernel
theorem dX9_of_94 : decode cX9_of 94 = .ok (.iaload, 1) := by decide +kernel
theorem dX9_of_95 : decode cX9_of 95 = .ok (.ireturn, 1) := by decide +kernel
theorem dX9_of_96 : decode cX9_of 96 = .ok (.aload_n 0, 1) := by decide +kernel
theorem dX9_of_97 : decode cX9_of 97 = .ok (.getfield 10, 3) := by decide +kernel
theorem dX9_of_100 : decode cX9_of 100 = .ok (.getfield 132, 3) := by decide +kernel
theorem dX9_of_103 : decode cX9_of 103 = .ok (.iload_n 1, 1) := by decide +kernel
theorem dX9_of_104 : decode cX9_of 104 = .ok (.iaload, 1) := by decide +kernel
theorem dX9_of_105 : decode cX9_of 105 = .ok (.ireturn, 1) := by decide +kernel
theorem dX9_of_106 : decode cX9_of 106 = .ok (.aload_n 0, 1) := by decide +kernel
theorem dX9_of_107 : decode cX9_of 107 = .ok (.getfield 10, 3) := by decide +kernel
theorem dX9_of_110 : decode cX9_of 110 = .ok (.getfield 135, 3) := by decide +kernel
theorem dX9_of_113 : decode cX9_of 113 = .ok (.iload_n 1, 1) := by decide +kernel
theorem dX9_of_114 : decode cX9_of 114 = .ok (.iaload, 1) := by decide +kernel
theorem dX9_of_115 : decode cX9_of 115 = .ok (.ireturn, 1) := by decide +kernel
theorem dX9_of_116 : decode cX9_of 116 = .ok (.aload_n 0, 1) := by decide +kernel
theorem dX9_of_117 : decode cX9_of 117 = .ok (.getfield 10, 3) := by decide +kernel
theorem dX9_of_120 : decode cX9_of 120 = .ok (.getfield 138, 3) := by decide +kernel
theorem dX9_of_123 : decode cX9_of 123 = .ok (.iload_n 1, 1) := by decide +kernel
theorem dX9_of_124 : decode cX9_of 124 = .ok (.iaload, 1) := by decide +kernel
theorem dX9_of_125 : decode cX9_of 125 = .ok (.ireturn, 1) := by decide +kernel
theorem dX9_of_126 : decode cX9_of 126 = .ok (.aload_n 0, 1) := by decide +kernel
theorem dX9_of_127 : decode cX9_of 127 = .ok (.invokevirtual 79, 3) := by decide +kernel
theorem dX9_of_130 : decode cX9_of 130 = .ok (.ireturn, 1) := by decide +kernel
theorem dX9_empties_0 : decode cX9_empties 0 = .ok (.aload_n 0, 1) := by decide +kernel
theorem dX9_empties_1 : decode cX9_empties 1 = .ok (.getfield 10, 3) := by decide +kernel
theorem dX9_empties_4 : decode cX9_empties 4 = .ok (.getfield 83, 3) := by decide +kernel
theorem dX9_empties_7 : decode cX9_empties 7 = .ok (.istore_n 1, 1) := by decide +kernel
theorem dX9_empties_8 : decode cX9_empties 8 = .ok (.aload_n 0, 1) := by decide +kernel
theorem dX9_empties_9 : decode cX9_empties 9 = .ok (.getfield 10, 3) := by decide +kernel
theorem dX9_empties_12 : decode cX9_empties 12 = .ok (.invokevirtual 141, 3) := by decide +kernel
theorem dX9_empties_15 : decode cX9_empties 15 = .ok (.iload_n 1, 1) := by decide +kernel
theorem dX9_empties_16 : decode cX9_empties 16 = .ok (.ireturn, 1) := by decide +kernel
theorem dX9_other_0 : decode cX9_other 0 = .ok (.iload_n 1, 1) := by decide +kernel
theorem dX9_other_1 : decode cX9_other 1 = .ok (.invokestatic 68, 3) := by decide +kernel
theorem dX9_other_4 : decode cX9_other 4 = .ok (.ifCond .eq 10, 3) := by decide +kernel
theorem dX9_other_7 : decode cX9_other 7 = .ok (.iload_n 2, 1) := by decide +kernel
theorem dX9_other_8 : decode cX9_other 8 = .ok (.invokestatic 68, 3) := by decide +kernel
theorem dX9_other_11 : decode cX9_other 11 = .ok (.ifCond .ne 8, 3) := by decide +kernel
theorem dX9_other_14 : decode cX9_other 14 = .ok (.aload_n 0, 1) := by decide +kernel
theorem dX9_other_15 : decode cX9_other 15 = .ok (.invokevirtual 79, 3) := by decide +kernel
theorem dX9_other_18 : decode cX9_other 18 = .ok (.ireturn, 1) := by decide +kernel
theorem dX9_other_19 : decode cX9_other 19 = .ok (.aload_n 0, 1) := by decide +kernel
theorem dX9_other_20 : decode cX9_other 20 = .ok (.getfield 37, 3) := by decide +kernel
theorem dX9_other_23 : decode cX9_other 23 = .ok (.iload_n 1, 1) := by decide +kernel
theorem dX9_other_24 : decode cX9_other 24 = .ok (.iaload, 1) := by decide +kernel
theorem dX9_other_25 : decode cX9_other 25 = .ok (.istore_n 3, 1) := by decide +kernel
theorem dX9_other_26 : decode cX9_other 26 = .ok (.aload_n 0, 1) := by decide +kernel
theorem dX9_other_27 : decode cX9_other 27 = .ok (.getfield 37, 3) := by decide +kernel
theorem dX9_other_30 : decode cX9_other 30 = .ok (.iload_n 1, 1) := by decide +kernel
theorem dX9_other_31 : decode cX9_other 31 = .ok (.iload_n 2, 1) := by decide +kernel
theorem dX9_other_32 : decode cX9_other 32 = .ok (.iastore, 1) := by decide +kernel
theorem dX9_other_33 : decode cX9_other 33 = .ok (.iload_n 3, 1) := by decide +kernel
theorem dX9_other_34 : decode cX9_other 34 = .ok (.ireturn, 1) := by decide +kernel
theorem dX9_fitter_0 : decode cX9_fitter 0 = .ok (.iload_n 1, 1) := by decide +kernel
theorem dX9_fitter_1 : decode cX9_fitter 1 = .ok (.iconst 0, 1) := by decide +kernel
theorem dX9_fitter_2 : decode cX9_fitter 2 = .ok (.iconst 4, 1) := by decide +kernel
theorem dX9_fitter_3 : decode cX9_fitter 3 = .ok (.invokestatic 72, 3) := by decide +kernel
theorem dX9_fitter_6 : decode cX9_fitter 6 = .ok (.ifCond .ne 8, 3) := by decide +kernel
theorem dX9_fitter_9 : decode cX9_fitter 9 = .ok (.aload_n 0, 1) := by decide +kernel
theorem dX9_fitter_10 : decode cX9_fitter 10 = .ok (.invokevirtual 79, 3) := by decide +kernel
theorem dX9_fitter_13 : decode cX9_fitter 13 = .ok (.ireturn, 1) := by decide +kernel
theorem dX9_fitter_14 : decode cX9_fitter 14 = .ok (.aload_n 0, 1) := by decide +kernel
theorem dX9_fitter_15 : decode cX9_fitter 15 = .ok (.getfield 144, 3) := by decide +kernel
theorem dX9_fitter_18 : decode cX9_fitter 18 = .ok (.istore_n 2, 1) := by decide +kernel
theorem dX9_fitter_19 : decode cX9_fitter 19 = .ok (.aload_n 0, 1) := by decide +kernel
theorem dX9_fitter_20 : decode cX9_fitter 20 = .ok (.iload_n 1, 1) := by decide +kernel
theorem dX9_fitter_21 : decode cX9_fitter 21 = .ok (.putfield 144, 3) := by decide +kernel
theorem dX9_fitter_24 : decode cX9_fitter 24 = .ok (.iload_n 2, 1) := by decide +kernel
theorem dX9_fitter_25 : decode cX9_fitter 25 = .ok (.ireturn, 1) := by decide +kernel
theorem dX9_type_0 : decode cX9_type 0 = .ok (.iload_n 1, 1) := by decide +kernel
theorem dX9_type_1 : decode cX9_type 1 = .ok (.iconst 0, 1) := by decide +kernel
theorem dX9_type_2 : decode cX9_type 2 = .ok (.bipush 127, 2) := by decide +kernel
theorem dX9_type_4 : decode cX9_type 4 = .ok (.invokestatic 72, 3) := by decide +kernel
theorem dX9_type_7 : decode cX9_type 7 = .ok (.ifCond .ne 8, 3) := by decide +kernel
theorem dX9_type_10 : decode cX9_type 10 = .ok (.aload_n 0, 1) := by decide +kernel
theorem dX9_type_11 : decode cX9_type 11 = .ok (.invokevirtual 79, 3) := by decide +kernel
theorem dX9_type_14 : decode cX9_type 14 = .ok (.ireturn, 1) := by decide +kernel
theorem dX9_type_15 : decode cX9_type 15 = .ok (.aload_n 0, 1) := by decide +kernel
theorem dX9_type_16 : decode cX9_type 16 = .ok (.getfield 33, 3) := by decide +kernel
theorem dX9_type_19 : decode cX9_type 19 = .ok (.getfield 147, 3) := by decide +kernel
theorem dX9_type_22 : decode cX9_type 22 = .ok (.bipush 120, 2) := by decide +kernel
theorem dX9_type_24 : decode cX9_type 24 = .ok (.if_icmp .lt 8, 3) := by decide +kernel
theorem dX9_type_27 : decode cX9_type 27 = .ok (.aload_n 0, 1) := by decide +kernel
theorem dX9_type_28 : decode cX9_type 28 = .ok (.invokevirtual 87, 3) := by decide +kernel
theorem dX9_type_31 : decode cX9_type 31 = .ok (.ireturn, 1) := by decide +kernel
theorem dX9_type_32 : decode cX9_type 32 = .ok (.aload_n 0, 1) := by decide +kernel
theorem dX9_type_33 : decode cX9_type 33 = .ok (.getfield 33, 3) := by decide +kernel
theorem dX9_type_36 : decode cX9_type 36 = .ok (.iload_n 1, 1) := by decide +kernel
theorem dX9_type_37 : decode cX9_type 37 = .ok (.invokevirtual 148, 3) := by decide +kernel
theorem dX9_type_40 : decode cX9_type 40 = .ok (.aload_n 0, 1) := by decide +kernel
theorem dX9_type_41 : decode cX9_type 41 = .ok (.getfield 33, 3) := by decide +kernel
theorem dX9_type_44 : decode cX9_type 44 = .ok (.getfield 147, 3) := by decide +kernel
theorem dX9_type_47 : decode cX9_type 47 = .ok (.ireturn, 1) := by decide +kernel
theorem dX9_clear_0 : decode cX9_clear 0 = .ok (.aload_n 0, 1) := by decide +kernel
theorem dX9_clear_1 : decode cX9_clear 1 = .ok (.getfield 33, 3) := by decide +kernel
theorem dX9_clear_4 : decode cX9_clear 4 = .ok (.getfield 147, 3) := by decide +kernel
theorem dX9_clear_7 : decode cX9_clear 7 = .ok (.istore_n 1, 1) := by decide +kernel
theorem dX9_clear_8 : decode cX9_clear 8 = .ok (.aload_n 0, 1) := by decide +kernel
theorem dX9_clear_9 : decode cX9_clear 9 = .ok (.getfield 33, 3) := by decide +kernel
theorem dX9_clear_12 : decode cX9_clear 12 = .ok (.iconst 0, 1) := by decide +kernel
theorem dX9_clear_13 : decode cX9_clear 13 = .ok (.putfield 147, 3) := by decide +kernel
theorem dX9_clear_16 : decode cX9_clear 16 = .ok (.iload_n 1, 1) := by decide +kernel
theorem dX9_clear_17 : decode cX9_clear 17 = .ok (.ireturn, 1) := by decide +kernel
theorem dX9_reads_0 : decode cX9_reads 0 = .ok (.aload_n 0, 1) := by decide +kernel
theorem dX9_reads_1 : decode cX9_reads 1 = .ok (.getfield 33, 3) := by decide +kernel
theorem dX9_reads_4 : decode cX9_reads 4 = .ok (.invokevirtual 151, 3) := by decide +kernel
theorem dX9_reads_7 : decode cX9_reads 7 = .ok (.istore_n 1, 1) := by decide +kernel
theorem dX9_reads_8 : decode cX9_reads 8 = .ok (.iload_n 1, 1) := by decide +kernel
theorem dX9_reads_9 : decode cX9_reads 9 = .ok (.iconst (-1), 1) := by decide +kernel
theorem dX9_reads_10 : decode cX9_reads 10 = .ok (.if_icmp .eq 8, 3) := by decide +kernel
theorem dX9_reads_13 : decode cX9_reads 13 = .ok (.bipush (-10), 2) := by decide +kernel
theorem dX9_reads_15 : decode cX9_reads 15 = .ok (.iload_n 1, 1) := by decide +kernel
theorem dX9_reads_16 : decode cX9_reads 16 = .ok (.isub, 1) := by decide +kernel
theorem dX9_reads_17 : decode cX9_reads 17 = .ok (.ireturn, 1) := by decide +kernel
theorem dX9_reads_18 : decode cX9_reads 18 = .ok (.aload_n 0, 1) := by decide +kernel
theorem dX9_reads_19 : decode cX9_reads 19 = .ok (.getfield 33, 3) := by decide +kernel
theorem dX9_reads_22 : decode cX9_reads 22 = .ok (.getfield 154, 3) := by decide +kernel
theorem dX9_reads_25 : decode cX9_reads 25 = .ok (.ifCond .eq 25, 3) := by decide +kernel
theorem dX9_reads_28 : decode cX9_reads 28 = .ok (.aload_n 0, 1) := by decide +kernel
theorem dX9_reads_29 : decode cX9_reads 29 = .ok (.getfield 19, 3) := by decide +kernel
theorem dX9_reads_32 : decode cX9_reads 32 = .ok (.aload_n 0, 1) := by decide +kernel
theorem dX9_reads_33 : decode cX9_reads 33 = .ok (.getfield 33, 3) := by decide +kernel
theorem dX9_reads_36 : decode cX9_reads 36 = .ok (.getfield 158, 3) := by decide +kernel
theorem dX9_reads_39 : decode cX9_reads 39 = .ok (.invokevirtual 159, 3) := by decide +kernel
theorem dX9_reads_42 : decode cX9_reads 42 = .ok (.aload_n 0, 1) := by decide +kernel
theorem dX9_reads_43 : decode cX9_reads 43 = .ok (.getfield 19, 3) := by decide +kernel
theorem dX9_reads_46 : decode cX9_reads 46 = .ok (.getfield 163, 3) := by decide +kernel
theorem dX9_reads_49 : decode cX9_reads 49 = .ok (.ireturn, 1) := by decide +kernel
theorem dX9_reads_50 : decode cX9_reads 50 = .ok (.aload_n 0, 1) := by decide +kernel
theorem dX9_reads_51 : decode cX9_reads 51 = .ok (.getfield 26, 3) := by decide +kernel
theorem dX9_reads_54 : decode cX9_reads 54 = .ok (.aload_n 0, 1) := by decide +kernel
theorem dX9_reads_55 : decode cX9_reads 55 = .ok (.getfield 33, 3) := by decide +kernel
theorem dX9_reads_58 : decode cX9_reads 58 = .ok (.getfield 164, 3) := by decide +kernel
theorem dX9_reads_61 : decode cX9_reads 61 = .ok (.invokevirtual 165, 3) := by decide +kernel
theorem dX9_reads_64 : decode cX9_reads 64 = .ok (.aload_n 0, 1) := by decide +kernel
theorem dX9_reads_65 : decode cX9_reads 65 = .ok (.getfield 26, 3) := by decide +kernel
theorem dX9_reads_68 : decode cX9_reads 68 = .ok (.getfield 168, 3) := by decide +kernel
theorem dX9_reads_71 : decode cX9_reads 71 = .ok (.ireturn, 1) := by decide +kernel
theorem dX9_target_0 : decode cX9_target 0 = .ok (.aload_n 0, 1) := by decide +kernel
theorem dX9_target_1 : decode cX9_target 1 = .ok (.iload_n 1, 1) := by decide +kernel
theorem dX9_target_2 : decode cX9_target 2 = .ok (.invokevirtual 171, 3) := by decide +kernel
theorem dX9_target_5 : decode cX9_target 5 = .ok (.ifCond .ne 8, 3) := by decide +kernel
theorem dX9_target_8 : decode cX9_target 8 = .ok (.aload_n 0, 1) := by decide +kernel
theorem dX9_target_9 : decode cX9_target 9 = .ok (.invokevirtual 79, 3) := by decide +kernel
theorem dX9_target_12 : decode cX9_target 12 = .ok (.ireturn, 1) := by decide +kernel
theorem dX9_target_13 : decode cX9_target 13 = .ok (.iload_n 2, 1) := by decide +kernel
theorem dX9_target_14 : decode cX9_target 14 = .ok (.tableswitch 82 0 4 #[34, 44, 54, 64, 73], 34) := by decide +kernel
theorem dX9_target_48 : decode cX9_target 48 = .ok (.aload_n 0, 1) := by decide +kernel
theorem dX9_target_49 : decode cX9_target 49 = .ok (.getfield 19, 3) := by decide +kernel
theorem dX9_target_52 : decode cX9_target 52 = .ok (.getfield 174, 3) := by decide +kernel
theorem dX9_target_55 : decode cX9_target 55 = .ok (.iload_n 1, 1) := by decide +kernel
theorem dX9_target_56 : decode cX9_target 56 = .ok (.iaload, 1) := by decide +kernel
theorem dX9_target_57 : decode cX9_target 57 = .ok (.ireturn, 1) := by decide +kernel
theorem dX9_target_58 : decode cX9_target 58 = .ok (.aload_n 0, 1) := by decide +kernel
theorem dX9_target_59 : decode cX9_target 59 = .ok (.getfield 19, 3) := by decide +kernel
theorem dX9_target_62 : decode cX9_target 62 = .ok (.getfield 175, 3) := by decide +kernel
theorem dX9_target_65 : decode cX9_target 65 = .ok (.iload_n 1, 1) := by decide +kernel
theorem dX9_target_66 : decode cX9_target 66 = .ok (.iaload, 1) := by decide +kernel
theorem dX9_target_67 : decode cX9_target 67 = .ok (.ireturn, 1) := by decide +kernel
theorem dX9_target_68 : decode cX9_target 68 = .ok (.aload_n 0, 1) := by decide +kernel
theorem dX9_target_69 : decode cX9_target 69 = .ok (.getfield 19, 3) := by decide +kernel
theorem dX9_target_72 : decode cX9_target 72 = .ok (.getfield 176, 3) := by decide +kernel
theorem dX9_target_75 : decode cX9_target 75 = .ok (.iload_n 1, 1) := by decide +kernel
theorem dX9_target_76 : decode cX9_target 76 = .ok (.iaload, 1) := by decide +kernel
theorem dX9_target_77 : decode cX9_target 77 = .ok (.ireturn, 1) := by decide +kernel
theorem dX9_target_78 : decode cX9_target 78 = .ok (.aload_n 0, 1) := by decide +kernel
theorem dX9_target_79 : decode cX9_target 79 = .ok (.getfield 19, 3) := by decide +kernel
theorem dX9_target_82 : decode cX9_target 82 = .ok (.iload_n 1, 1) := by decide +kernel
theorem dX9_target_83 : decode cX9_target 83 = .ok (.invokevirtual 177, 3) := by decide +kernel
theorem dX9_target_86 : decode cX9_target 86 = .ok (.ireturn, 1) := by decide +kernel
theorem dX9_target_87 : decode cX9_target 87 = .ok (.aload_n 0, 1) := by decide +kernel
theorem dX9_target_88 : decode cX9_target 88 = .ok (.getfield 19, 3) := by decide +kernel
theorem dX9_target_91 : decode cX9_target 91 = .ok (.iload_n 1, 1) := by decide +kernel
theorem dX9_target_92 : decode cX9_target 92 = .ok (.invokevirtual 181, 3) := by decide +kernel
theorem dX9_target_95 : decode cX9_target 95 = .ok (.ireturn, 1) := by decide +kernel
theorem dX9_target_96 : decode cX9_target 96 = .ok (.aload_n 0, 1) := by decide +kernel
theorem dX9_target_97 : decode cX9_target 97 = .ok (.invokevirtual 79, 3) := by decide +kernel
theorem dX9_target_100 : decode cX9_target 100 = .ok (.ireturn, 1) := by decide +kernel
theorem dX9_tree_0 : decode cX9_tree 0 = .ok (.iload_n 1, 1) := by decide +kernel
theorem dX9_tree_1 : decode cX9_tree 1 = .ok (.tableswitch 48 0 2 #[27, 35, 43], 27) := by decide +kernel
theorem dX9_tree_28 : decode cX9_tree 28 = .ok (.aload_n 0, 1) := by decide +kernel
theorem dX9_tree_29 : decode cX9_tree 29 = .ok (.getfield 26, 3) := by decide +kernel
theorem dX9_tree_32 : decode cX9_tree 32 = .ok (.getfield 168, 3) := by decide +kernel
theorem dX9_tree_35 : decode cX9_tree 35 = .ok (.ireturn, 1) := by decide +kernel
theorem dX9_tree_36 : decode cX9_tree 36 = .ok (.aload_n 0, 1) := by decide +kernel
theorem dX9_tree_37 : decode cX9_tree 37 = .ok (.getfield 26, 3) := by decide +kernel
theorem dX9_tree_40 : decode cX9_tree 40 = .ok (.getfield 184, 3) := by decide +kernel
theorem dX9_tree_43 : decode cX9_tree 43 = .ok (.ireturn, 1) := by decide +kernel
theorem dX9_tree_44 : decode cX9_tree 44 = .ok (.aload_n 0, 1) := by decide +kernel
theorem dX9_tree_45 : decode cX9_tree 45 = .ok (.invokevirtual 187, 3) := by decide +kernel
theorem dX9_tree_48 : decode cX9_tree 48 = .ok (.ireturn, 1) := by decide +kernel
theorem dX9_tree_49 : decode cX9_tree 49 = .ok (.aload_n 0, 1) := by decide +kernel
theorem dX9_tree_50 : decode cX9_tree 50 = .ok (.invokevirtual 79, 3) := by decide +kernel
theorem dX9_tree_53 : decode cX9_tree 53 = .ok (.ireturn, 1) := by decide +kernel
theorem dX9_leaf_0 : decode cX9_leaf 0 = .ok (.iload_n 1, 1) := by decide +kernel
theorem dX9_leaf_1 : decode cX9_leaf 1 = .ok (.ifCond .ne 27, 3) := by decide +kernel
theorem dX9_leaf_4 : decode cX9_leaf 4 = .ok (.aload_n 0, 1) := by decide +kernel
theorem dX9_leaf_5 : decode cX9_leaf 5 = .ok (.iload_n 2, 1) := by decide +kernel
theorem dX9_leaf_6 : decode cX9_leaf 6 = .ok (.invokevirtual 117, 3) := by decide +kernel
theorem dX9_leaf_9 : decode cX9_leaf 9 = .ok (.ifCond .eq 19, 3) := by decide +kernel
theorem dX9_leaf_12 : decode cX9_leaf 12 = .ok (.aload_n 0, 1) := by decide +kernel
theorem dX9_leaf_13 : decode cX9_leaf 13 = .ok (.getfield 26, 3) := by decide +kernel
theorem dX9_leaf_16 : decode cX9_leaf 16 = .ok (.aload_n 0, 1) := by decide +kernel
theorem dX9_leaf_17 : decode cX9_leaf 17 = .ok (.getfield 46, 3) := by decide +kernel
theorem dX9_leaf_20 : decode cX9_leaf 20 = .ok (.iload_n 2, 1) := by decide +kernel
theorem dX9_leaf_21 : decode cX9_leaf 21 = .ok (.invokevirtual 190, 3) := by decide +kernel
theorem dX9_leaf_24 : decode cX9_leaf 24 = .ok (.invokevirtual 193, 3) := by decide +kernel
theorem dX9_leaf_27 : decode cX9_leaf 27 = .ok (.ireturn, 1) := by decide +kernel
theorem dX9_leaf_28 : decode cX9_leaf 28 = .ok (.iload_n 1, 1) := by decide +kernel
theorem dX9_leaf_29 : decode cX9_leaf 29 = .ok (.iconst 1, 1) := by decide +kernel
theorem dX9_leaf_30 : decode cX9_leaf 30 = .ok (.if_icmp .ne 27, 3) := by decide +kernel
theorem dX9_leaf_33 : decode cX9_leaf 33 = .ok (.aload_n 0, 1) := by decide +kernel
theorem dX9_leaf_34 : decode cX9_leaf 34 = .ok (.iload_n 2, 1) := by decide +kernel
theorem dX9_leaf_35 : decode cX9_leaf 35 = .ok (.invokevirtual 171, 3) := by decide +kernel
theorem dX9_leaf_38 : decode cX9_leaf 38 = .ok (.ifCond .eq 19, 3) := by decide +kernel
theorem dX9_leaf_41 : decode cX9_leaf 41 = .ok (.aload_n 0, 1) := by decide +kernel
theorem dX9_leaf_42 : decode cX9_leaf 42 = .ok (.getfield 26, 3) := by decide +kernel
theorem dX9_leaf_45 : decode cX9_leaf 45 = .ok (.aload_n 0, 1) := by decide +kernel
theorem dX9_leaf_46 : decode cX9_leaf 46 = .ok (.getfield 46, 3) := by decide +kernel
theorem dX9_leaf_49 : decode cX9_leaf 49 = .ok (.iload_n 2, 1) := by decide +kernel
theorem dX9_leaf_50 : decode cX9_leaf 50 = .ok (.invokevirtual 196, 3) := by decide +kernel
theorem dX9_leaf_53 : decode cX9_leaf 53 = .ok (.invokevirtual 193, 3) := by decide +kernel
theorem dX9_leaf_56 : decode cX9_leaf 56 = .ok (.ireturn, 1) := by decide +kernel
theorem dX9_leaf_57 : decode cX9_leaf 57 = .ok (.aload_n 0, 1) := by decide +kernel
theorem dX9_leaf_58 : decode cX9_leaf 58 = .ok (.invokevirtual 79, 3) := by decide +kernel
theorem dX9_leaf_61 : decode cX9_leaf 61 = .ok (.ireturn, 1) := by decide +kernel
theorem dX9_choice_0 : decode cX9_choice 0 = .ok (.aload_n 0, 1) := by decide +kernel
theorem dX9_choice_1 : decode cX9_choice 1 = .ok (.iload_n 1, 1) := by decide +kernel
theorem dX9_choice_2 : decode cX9_choice 2 = .ok (.invokevirtual 199, 3) := by decide +kernel
theorem dX9_choice_5 : decode cX9_choice 5 = .ok (.ifCond .eq 8, 3) := by decide +kernel
theorem dX9_choice_8 : decode cX9_choice 8 = .ok (.iload_n 2, 1) := by decide +kernel
theorem dX9_choice_9 : decode cX9_choice 9 = .ok (.iconst (-1), 1) := by decide +kernel
theorem dX9_choice_10 : decode cX9_choice 10 = .ok (.if_icmp .ge 16, 3) := by decide +kernel
theorem dX9_choice_13 : decode cX9_choice 13 = .ok (.aload_n 0, 1) := by decide +kernel
theorem dX9_choice_14 : decode cX9_choice 14 = .ok (.dup, 1) := by decide +kernel
theorem dX9_choice_15 : decode cX9_choice 15 = .ok (.getfield 202, 3) := by decide +kernel
theorem dX9_choice_18 : decode cX9_choice 18 = .ok (.iconst 1, 1) := by decide +kernel
theorem dX9_choice_19 : decode cX9_choice 19 = .ok (.iadd, 1) := by decide +kernel
theorem dX9_choice_20 : decode cX9_choice 20 = .ok (.putfield 202, 3) := by decide +kernel
theorem dX9_choice_23 : decode cX9_choice 23 = .ok (.bipush (-10), 2) := by decide +kernel
theorem dX9_choice_25 : decode cX9_choice 25 = .ok (.ireturn, 1) := by decide +kernel
theorem dX9_choice_26 : decode cX9_choice 26 = .ok (.aload_n 0, 1) := by decide +kernel
theorem dX9_choice_27 : decode cX9_choice 27 = .ok (.getfield 19, 3) := by decide +kernel
theorem dX9_choice_30 : decode cX9_choice 30 = .ok (.getfield 163, 3) := by decide +kernel
theorem dX9_choice_33 : decode cX9_choice 33 = .ok (.ifCond .ne 8, 3) := by decide +kernel
theorem dX9_choice_36 : decode cX9_choice 36 = .ok (.aload_n 0, 1) := by decide +kernel
theorem dX9_choice_37 : decode cX9_choice 37 = .ok (.invokevirtual 205, 3) := by decide +kernel
theorem dX9_choice_40 : decode cX9_choice 40 = .ok (.ireturn, 1) := by decide +kernel
theorem dX9_choice_41 : decode cX9_choice 41 = .ok (.aload_n 0, 1) := by decide +kernel
theorem dX9_choice_42 : decode cX9_choice 42 = .ok (.getfield 46, 3) := by decide +kernel
theorem dX9_choice_45 : decode cX9_choice 45 = .ok (.iload_n 1, 1) := by decide +kernel
theorem dX9_choice_46 : decode cX9_choice 46 = .ok (.iconst (-1), 1) := by decide +kernel
theorem dX9_choice_47 : decode cX9_choice 47 = .ok (.invokevirtual 208, 3) := by decide +kernel
theorem dX9_choice_50 : decode cX9_choice 50 = .ok (.astore_n 3, 1) := by decide +kernel
theorem dX9_choice_51 : decode cX9_choice 51 = .ok (.aload_n 3, 1) := by decide +kernel
theorem dX9_choice_52 : decode cX9_choice 52 = .ok (.invokevirtual 212, 3) := by decide +kernel
theorem dX9_choice_55 : decode cX9_choice 55 = .ok (.ifCond .eq 8, 3) := by decide +kernel
theorem dX9_choice_58 : decode cX9_choice 58 = .ok (.aload_n 0, 1) := by decide +kernel
theorem dX9_choice_59 : decode cX9_choice 59 = .ok (.invokevirtual 205, 3) := by decide +kernel
theorem dX9_choice_62 : decode cX9_choice 62 = .ok (.ireturn, 1) := by decide +kernel
theorem dX9_choice_63 : decode cX9_choice 63 = .ok (.iload_n 2, 1) := by decide +kernel
theorem dX9_choice_64 : decode cX9_choice 64 = .ok (.iconst (-1), 1) := by decide +kernel
theorem dX9_choice_65 : decode cX9_choice 65 = .ok (.if_icmp .ne 8, 3) := by decide +kernel
theorem dX9_choice_68 : decode cX9_choice 68 = .ok (.aload_n 3, 1) := by decide +kernel
theorem dX9_choice_69 : decode cX9_choice 69 = .ok (.getfield 218, 3) := by decide +kernel
theorem dX9_choice_72 : decode cX9_choice 72 = .ok (.ireturn, 1) := by decide +kernel
theorem dX9_choice_73 : decode cX9_choice 73 = .ok (.iload_n 2, 1) := by decide +kernel
theorem dX9_choice_74 : decode cX9_choice 74 = .ok (.aload_n 3, 1) := by decide +kernel
theorem dX9_choice_75 : decode cX9_choice 75 = .ok (.getfield 218, 3) := by decide +kernel
theorem dX9_choice_78 : decode cX9_choice 78 = .ok (.if_icmp .ge 12, 3) := by decide +kernel
theorem dX9_choice_81 : decode cX9_choice 81 = .ok (.aload_n 3, 1) := by decide +kernel
theorem dX9_choice_82 : decode cX9_choice 82 = .ok (.getfield 219, 3) := by decide +kernel
theorem dX9_choice_85 : decode cX9_choice 85 = .ok (.iload_n 2, 1) := by decide +kernel
theorem dX9_choice_86 : decode cX9_choice 86 = .ok (.iaload, 1) := by decide +kernel
theorem dX9_choice_87 : decode cX9_choice 87 = .ok (.goto 5, 3) := by decide +kernel
theorem dX9_choice_90 : decode cX9_choice 90 = .ok (.bipush (-5), 2) := by decide +kernel
theorem dX9_choice_92 : decode cX9_choice 92 = .ok (.ireturn, 1) := by decide +kernel
theorem dX9_steps_0 : decode cX9_steps 0 = .ok (.aload_n 0, 1) := by decide +kernel
theorem dX9_steps_1 : decode cX9_steps 1 = .ok (.iload_n 1, 1) := by decide +kernel
theorem dX9_steps_2 : decode cX9_steps 2 = .ok (.invokevirtual 171, 3) := by decide +kernel
theorem dX9_steps_5 : decode cX9_steps 5 = .ok (.ifCond .eq 18, 3) := by decide +kernel
theorem dX9_steps_8 : decode cX9_steps 8 = .ok (.aload_n 0, 1) := by decide +kernel
theorem dX9_steps_9 : decode cX9_steps 9 = .ok (.getfield 46, 3) := by decide +kernel
theorem dX9_steps_12 : decode cX9_steps 12 = .ok (.iload_n 1, 1) := by decide +kernel
theorem dX9_steps_13 : decode cX9_steps 13 = .ok (.iconst (-1), 1) := by decide +kernel
theorem dX9_steps_14 : decode cX9_steps 14 = .ok (.invokevirtual 208, 3) := by decide +kernel
theorem dX9_steps_17 : decode cX9_steps 17 = .ok (.getfield 222, 3) := by decide +kernel
theorem dX9_steps_20 : decode cX9_steps 20 = .ok (.goto 7, 3) := by decide +kernel
theorem dX9_steps_23 : decode cX9_steps 23 = .ok (.aload_n 0, 1) := by decide +kernel
theorem dX9_steps_24 : decode cX9_steps 24 = .ok (.invokevirtual 79, 3) := by decide +kernel
theorem dX9_steps_27 : decode cX9_steps 27 = .ok (.ireturn, 1) := by decide +kernel
theorem dX9_tried_0 : decode cX9_tried 0 = .ok (.aload_n 0, 1) := by decide +kernel
theorem dX9_tried_1 : decode cX9_tried 1 = .ok (.iload_n 1, 1) := by decide +kernel
theorem dX9_tried_2 : decode cX9_tried 2 = .ok (.invokevirtual 171, 3) := by decide +kernel
theorem dX9_tried_5 : decode cX9_tried 5 = .ok (.ifCond .eq 18, 3) := by decide +kernel
theorem dX9_tried_8 : decode cX9_tried 8 = .ok (.aload_n 0, 1) := by decide +kernel
theorem dX9_tried_9 : decode cX9_tried 9 = .ok (.getfield 46, 3) := by decide +kernel
theorem dX9_tried_12 : decode cX9_tried 12 = .ok (.iload_n 1, 1) := by decide +kernel
theorem dX9_tried_13 : decode cX9_tried 13 = .ok (.iconst (-1), 1) := by decide +kernel
theorem dX9_tried_14 : decode cX9_tried 14 = .ok (.invokevirtual 208, 3) := by decide +kernel
theorem dX9_tried_17 : decode cX9_tried 17 = .ok (.getfield 225, 3) := by decide +kernel
theorem dX9_tried_20 : decode cX9_tried 20 = .ok (.goto 7, 3) := by decide +kernel
theorem dX9_tried_23 : decode cX9_tried 23 = .ok (.aload_n 0, 1) := by decide +kernel
theorem dX9_tried_24 : decode cX9_tried 24 = .ok (.invokevirtual 79, 3) := by decide +kernel
theorem dX9_tried_27 : decode cX9_tried 27 = .ok (.ireturn, 1) := by decide +kernel
theorem dX9_fit_0 : decode cX9_fit 0 = .ok (.aload_n 0, 1) := by decide +kernel
theorem dX9_fit_1 : decode cX9_fit 1 = .ok (.iload_n 1, 1) := by decide +kernel
theorem dX9_fit_2 : decode cX9_fit 2 = .ok (.invokevirtual 117, 3) := by decide +kernel
theorem dX9_fit_5 : decode cX9_fit 5 = .ok (.ifCond .eq 27, 3) := by decide +kernel
theorem dX9_fit_8 : decode cX9_fit 8 = .ok (.aload_n 0, 1) := by decide +kernel
theorem dX9_fit_9 : decode cX9_fit 9 = .ok (.iload_n 2, 1) := by decide +kernel
theorem dX9_fit_10 : decode cX9_fit 10 = .ok (.invokevirtual 171, 3) := by decide +kernel
theorem dX9_fit_13 : decode cX9_fit 13 = .ok (.ifCond .eq 19, 3) := by decide +kernel
theorem dX9_fit_16 : decode cX9_fit 16 = .ok (.aload_n 0, 1) := by decide +kernel
theorem dX9_fit_17 : decode cX9_fit 17 = .ok (.getfield 55, 3) := by decide +kernel
theorem dX9_fit_20 : decode cX9_fit 20 = .ok (.aload_n 0, 1) := by decide +kernel
theorem dX9_fit_21 : decode cX9_fit 21 = .ok (.getfield 144, 3) := by decide +kernel
theorem dX9_fit_24 : decode cX9_fit 24 = .ok (.iload_n 1, 1) := by decide +kernel
theorem dX9_fit_25 : decode cX9_fit 25 = .ok (.iload_n 2, 1) := by decide +kernel
theorem dX9_fit_26 : decode cX9_fit 26 = .ok (.invokevirtual 228, 3) := by decide +kernel
theorem dX9_fit_29 : decode cX9_fit 29 = .ok (.goto 7, 3) := by decide +kernel
theorem dX9_fit_32 : decode cX9_fit 32 = .ok (.aload_n 0, 1) := by decide +kernel
theorem dX9_fit_33 : decode cX9_fit 33 = .ok (.invokevirtual 79, 3) := by decide +kernel
theorem dX9_fit_36 : decode cX9_fit 36 = .ok (.ireturn, 1) := by decide +kernel
theorem dX9_joint_0 : decode cX9_joint 0 = .ok (.aload_n 0, 1) := by decide +kernel
theorem dX9_joint_1 : decode cX9_joint 1 = .ok (.iload_n 1, 1) := by decide +kernel
theorem dX9_joint_2 : decode cX9_joint 2 = .ok (.invokevirtual 117, 3) := by decide +kernel
theorem dX9_joint_5 : decode cX9_joint 5 = .ok (.ifCond .eq 23, 3) := by decide +kernel
theorem dX9_joint_8 : decode cX9_joint 8 = .ok (.aload_n 0, 1) := by decide +kernel
theorem dX9_joint_9 : decode cX9_joint 9 = .ok (.iload_n 2, 1) := by decide +kernel
theorem dX9_joint_10 : decode cX9_joint 10 = .ok (.invokevirtual 117, 3) := by decide +kernel
theorem dX9_joint_13 : decode cX9_joint 13 = .ok (.ifCond .eq 15, 3) := by decide +kernel
theorem dX9_joint_16 : decode cX9_joint 16 = .ok (.aload_n 0, 1) := by decide +kernel
theorem dX9_joint_17 : decode cX9_joint 17 = .ok (.getfield 55, 3) := by decide +kernel
theorem dX9_joint_20 : decode cX9_joint 20 = .ok (.iload_n 1, 1) := by decide +kernel
theorem dX9_joint_21 : decode cX9_joint 21 = .ok (.iload_n 2, 1) := by decide +kernel
theorem dX9_joint_22 : decode cX9_joint 22 = .ok (.invokevirtual 232, 3) := by decide +kernel
theorem dX9_joint_25 : decode cX9_joint 25 = .ok (.goto 7, 3) := by decide +kernel
theorem dX9_joint_28 : decode cX9_joint 28 = .ok (.aload_n 0, 1) := by decide +kernel
theorem dX9_joint_29 : decode cX9_joint 29 = .ok (.invokevirtual 79, 3) := by decide +kernel
theorem dX9_joint_32 : decode cX9_joint 32 = .ok (.ireturn, 1) := by decide +kernel
theorem dX9_cost_0 : decode cX9_cost 0 = .ok (.aload_n 0, 1) := by decide +kernel
theorem dX9_cost_1 : decode cX9_cost 1 = .ok (.iconst (-1), 1) := by decide +kernel
theorem dX9_cost_2 : decode cX9_cost 2 = .ok (.invokevirtual 236, 3) := by decide +kernel
theorem dX9_cost_5 : decode cX9_cost 5 = .ok (.ifCond .eq 13, 3) := by decide +kernel
theorem dX9_cost_8 : decode cX9_cost 8 = .ok (.aload_n 0, 1) := by decide +kernel
theorem dX9_cost_9 : decode cX9_cost 9 = .ok (.getfield 64, 3) := by decide +kernel
theorem dX9_cost_12 : decode cX9_cost 12 = .ok (.invokevirtual 239, 3) := by decide +kernel
theorem dX9_cost_15 : decode cX9_cost 15 = .ok (.goto 7, 3) := by decide +kernel
theorem dX9_cost_18 : decode cX9_cost 18 = .ok (.aload_n 0, 1) := by decide +kernel
theorem dX9_cost_19 : decode cX9_cost 19 = .ok (.invokevirtual 205, 3) := by decide +kernel
theorem dX9_cost_22 : decode cX9_cost 22 = .ok (.ireturn, 1) := by decide +kernel
theorem dX9_chain_0 : decode cX9_chain 0 = .ok (.aload_n 0, 1) := by decide +kernel
theorem dX9_chain_1 : decode cX9_chain 1 = .ok (.iload_n 1, 1) := by decide +kernel
theorem dX9_chain_2 : decode cX9_chain 2 = .ok (.invokevirtual 199, 3) := by decide +kernel
theorem dX9_chain_5 : decode cX9_chain 5 = .ok (.ifCond .ne 8, 3) := by decide +kernel
theorem dX9_chain_8 : decode cX9_chain 8 = .ok (.aload_n 0, 1) := by decide +kernel
theorem dX9_chain_9 : decode cX9_chain 9 = .ok (.invokevirtual 79, 3) := by decide +kernel
theorem dX9_chain_12 : decode cX9_chain 12 = .ok (.ireturn, 1) := by decide +kernel
theorem dX9_chain_13 : decode cX9_chain 13 = .ok (.aload_n 0, 1) := by decide +kernel
theorem dX9_chain_14 : decode cX9_chain 14 = .ok (.iconst (-1), 1) := by decide +kernel
theorem dX9_chain_15 : decode cX9_chain 15 = .ok (.invokevirtual 236, 3) := by decide +kernel
theorem dX9_chain_18 : decode cX9_chain 18 = .ok (.ifCond .eq 15, 3) := by decide +kernel
theorem dX9_chain_21 : decode cX9_chain 21 = .ok (.aload_n 0, 1) := by decide +kernel
theorem dX9_chain_22 : decode cX9_chain 22 = .ok (.getfield 64, 3) := by decide +kernel
theorem dX9_chain_25 : decode cX9_chain 25 = .ok (.getfield 242, 3) := by decide +kernel
theorem dX9_chain_28 : decode cX9_chain 28 = .ok (.iload_n 1, 1) := by decide +kernel
theorem dX9_chain_29 : decode cX9_chain 29 = .ok (.iaload, 1) := by decide +kernel
theorem dX9_chain_30 : decode cX9_chain 30 = .ok (.goto 7, 3) := by decide +kernel
theorem dX9_chain_33 : decode cX9_chain 33 = .ok (.aload_n 0, 1) := by decide +kernel
theorem dX9_chain_34 : decode cX9_chain 34 = .ok (.invokevirtual 205, 3) := by decide +kernel
theorem dX9_chain_37 : decode cX9_chain 37 = .ok (.ireturn, 1) := by decide +kernel
theorem dX9_ways_0 : decode cX9_ways 0 = .ok (.aload_n 0, 1) := by decide +kernel
theorem dX9_ways_1 : decode cX9_ways 1 = .ok (.iconst (-1), 1) := by decide +kernel
theorem dX9_ways_2 : decode cX9_ways 2 = .ok (.invokevirtual 236, 3) := by decide +kernel
theorem dX9_ways_5 : decode cX9_ways 5 = .ok (.ifCond .eq 13, 3) := by decide +kernel
theorem dX9_ways_8 : decode cX9_ways 8 = .ok (.aload_n 0, 1) := by decide +kernel
theorem dX9_ways_9 : decode cX9_ways 9 = .ok (.getfield 64, 3) := by decide +kernel
theorem dX9_ways_12 : decode cX9_ways 12 = .ok (.invokevirtual 245, 3) := by decide +kernel
theorem dX9_ways_15 : decode cX9_ways 15 = .ok (.goto 7, 3) := by decide +kernel
theorem dX9_ways_18 : decode cX9_ways 18 = .ok (.aload_n 0, 1) := by decide +kernel
theorem dX9_ways_19 : decode cX9_ways 19 = .ok (.invokevirtual 205, 3) := by decide +kernel
theorem dX9_ways_22 : decode cX9_ways 22 = .ok (.ireturn, 1) := by decide +kernel
theorem dX9_next_0 : decode cX9_next 0 = .ok (.aload_n 0, 1) := by decide +kernel
theorem dX9_next_1 : decode cX9_next 1 = .ok (.iconst (-1), 1) := by decide +kernel
theorem dX9_next_2 : decode cX9_next 2 = .ok (.invokevirtual 236, 3) := by decide +kernel
theorem dX9_next_5 : decode cX9_next 5 = .ok (.ifCond .eq 13, 3) := by decide +kernel
theorem dX9_next_8 : decode cX9_next 8 = .ok (.aload_n 0, 1) := by decide +kernel
theorem dX9_next_9 : decode cX9_next 9 = .ok (.getfield 64, 3) := by decide +kernel
theorem dX9_next_12 : decode cX9_next 12 = .ok (.invokevirtual 248, 3) := by decide +kernel
theorem dX9_next_15 : decode cX9_next 15 = .ok (.goto 7, 3) := by decide +kernel
theorem dX9_next_18 : decode cX9_next 18 = .ok (.aload_n 0, 1) := by decide +kernel
theorem dX9_next_19 : decode cX9_next 19 = .ok (.invokevirtual 205, 3) := by decide +kernel
theorem dX9_next_22 : decode cX9_next 22 = .ok (.ireturn, 1) := by decide +kernel
theorem dX9_dearest_0 : decode cX9_dearest 0 = .ok (.aload_n 0, 1) := by decide +kernel
theorem dX9_dearest_1 : decode cX9_dearest 1 = .ok (.iconst (-1), 1) := by decide +kernel
theorem dX9_dearest_2 : decode cX9_dearest 2 = .ok (.invokevirtual 236, 3) := by decide +kernel
theorem dX9_dearest_5 : decode cX9_dearest 5 = .ok (.ifCond .eq 13, 3) := by decide +kernel
theorem dX9_dearest_8 : decode cX9_dearest 8 = .ok (.aload_n 0, 1) := by decide +kernel
theorem dX9_dearest_9 : decode cX9_dearest 9 = .ok (.getfield 64, 3) := by decide +kernel
theorem dX9_dearest_12 : decode cX9_dearest 12 = .ok (.invokevirtual 251, 3) := by decide +kernel
theorem dX9_dearest_15 : decode cX9_dearest 15 = .ok (.goto 7, 3) := by decide +kernel
theorem dX9_dearest_18 : decode cX9_dearest 18 = .ok (.aload_n 0, 1) := by decide +kernel
theorem dX9_dearest_19 : decode cX9_dearest 19 = .ok (.invokevirtual 205, 3) := by decide +kernel
theorem dX9_dearest_22 : decode cX9_dearest 22 = .ok (.ireturn, 1) := by decide +kernel
theorem dX9_without_0 : decode cX9_without 0 = .ok (.aload_n 0, 1) := by decide +kernel
theorem dX9_without_1 : decode cX9_without 1 = .ok (.iload_n 1, 1) := by decide +kernel
theorem dX9_without_2 : decode cX9_without 2 = .ok (.invokevirtual 117, 3) := by decide +kernel
theorem dX9_without_5 : decode cX9_without 5 = .ok (.ifCond .ne 8, 3) := by decide +kernel
theorem dX9_without_8 : decode cX9_without 8 = .ok (.aload_n 0, 1) := by decide +kernel
theorem dX9_without_9 : decode cX9_without 9 = .ok (.invokevirtual 79, 3) := by decide +kernel
theorem dX9_without_12 : decode cX9_without 12 = .ok (.ireturn, 1) := by decide +kernel
theorem dX9_without_13 : decode cX9_without 13 = .ok (.aload_n 0, 1) := by decide +kernel
theorem dX9_without_14 : decode cX9_without 14 = .ok (.iload_n 1, 1) := by decide +kernel
theorem dX9_without_15 : decode cX9_without 15 = .ok (.invokevirtual 236, 3) := by decide +kernel
theorem dX9_without_18 : decode cX9_without 18 = .ok (.ifCond .eq 13, 3) := by decide +kernel
theorem dX9_without_21 : decode cX9_without 21 = .ok (.aload_n 0, 1) := by decide +kernel
theorem dX9_without_22 : decode cX9_without 22 = .ok (.getfield 64, 3) := by decide +kernel
theorem dX9_without_25 : decode cX9_without 25 = .ok (.invokevirtual 239, 3) := by decide +kernel
theorem dX9_without_28 : decode cX9_without 28 = .ok (.goto 7, 3) := by decide +kernel
theorem dX9_without_31 : decode cX9_without 31 = .ok (.aload_n 0, 1) := by decide +kernel
theorem dX9_without_32 : decode cX9_without 32 = .ok (.invokevirtual 205, 3) := by decide +kernel
theorem dX9_without_35 : decode cX9_without 35 = .ok (.ireturn, 1) := by decide +kernel
theorem dX9_about_0 : decode cX9_about 0 = .ok (.iload_n 1, 1) := by decide +kernel
theorem dX9_about_1 : decode cX9_about 1 = .ok (.iconst 0, 1) := by decide +kernel
theorem dX9_about_2 : decode cX9_about 2 = .ok (.iconst 3, 1) := by decide +kernel
theorem dX9_about_3 : decode cX9_about 3 = .ok (.invokestatic 72, 3) := by decide +kernel
theorem dX9_about_6 : decode cX9_about 6 = .ok (.ifCond .ne 8, 3) := by decide +kernel
theorem dX9_about_9 : decode cX9_about 9 = .ok (.aload_n 0, 1) := by decide +kernel
theorem dX9_about_10 : decode cX9_about 10 = .ok (.invokevirtual 79, 3) := by decide +kernel
theorem dX9_about_13 : decode cX9_about 13 = .ok (.ireturn, 1) := by decide +kernel
theorem dX9_about_14 : decode cX9_about 14 = .ok (.aload_n 0, 1) := by decide +kernel
theorem dX9_about_15 : decode cX9_about 15 = .ok (.iconst (-1), 1) := by decide +kernel
theorem dX9_about_16 : decode cX9_about 16 = .ok (.invokevirtual 236, 3) := by decide +kernel
theorem dX9_about_19 : decode cX9_about 19 = .ok (.ifCond .ne 8, 3) := by decide +kernel
theorem dX9_about_22 : decode cX9_about 22 = .ok (.aload_n 0, 1) := by decide +kernel
theorem dX9_about_23 : decode cX9_about 23 = .ok (.invokevirtual 205, 3) := by decide +kernel
theorem dX9_about_26 : decode cX9_about 26 = .ok (.ireturn, 1) := by decide +kernel
theorem dX9_about_27 : decode cX9_about 27 = .ok (.iload_n 1, 1) := by decide +kernel
theorem dX9_about_28 : decode cX9_about 28 = .ok (.tableswitch 60 0 2 #[28, 40, 52], 28) := by decide +kernel
theorem dX9_about_56 : decode cX9_about 56 = .ok (.aload_n 0, 1) := by decide +kernel
theorem dX9_about_57 : decode cX9_about 57 = .ok (.getfield 64, 3) := by decide +kernel
theorem dX9_about_60 : decode cX9_about 60 = .ok (.aload_n 0, 1) := by decide +kernel
theorem dX9_about_61 : decode cX9_about 61 = .ok (.getfield 10, 3) := by decide +kernel
theorem dX9_about_64 : decode cX9_about 64 = .ok (.invokevirtual 254, 3) := by decide +kernel
theorem dX9_about_67 : decode cX9_about 67 = .ok (.ireturn, 1) := by decide +kernel
theorem dX9_about_68 : decode cX9_about 68 = .ok (.aload_n 0, 1) := by decide +kernel
theorem dX9_about_69 : decode cX9_about 69 = .ok (.getfield 64, 3) := by decide +kernel
theorem dX9_about_72 : decode cX9_about 72 = .ok (.aload_n 0, 1) := by decide +kernel
theorem dX9_about_73 : decode cX9_about 73 = .ok (.getfield 144, 3) := by decide +kernel
theorem dX9_about_76 : decode cX9_about 76 = .ok (.invokevirtual 258, 3) := by decide +kernel
theorem dX9_about_79 : decode cX9_about 79 = .ok (.ireturn, 1) := by decide +kernel
theorem dX9_about_80 : decode cX9_about 80 = .ok (.aload_n 0, 1) := by decide +kernel
theorem dX9_about_81 : decode cX9_about 81 = .ok (.getfield 64, 3) := by decide +kernel
theorem dX9_about_84 : decode cX9_about 84 = .ok (.invokevirtual 261, 3) := by decide +kernel
theorem dX9_about_87 : decode cX9_about 87 = .ok (.ireturn, 1) := by decide +kernel
theorem dX9_about_88 : decode cX9_about 88 = .ok (.aload_n 0, 1) := by decide +kernel
theorem dX9_about_89 : decode cX9_about 89 = .ok (.getfield 64, 3) := by decide +kernel
theorem dX9_about_92 : decode cX9_about 92 = .ok (.invokevirtual 264, 3) := by decide +kernel
theorem dX9_about_95 : decode cX9_about 95 = .ok (.ireturn, 1) := by decide +kernel
theorem dX9_cheapest_0 : decode cX9_cheapest 0 = .ok (.iload_n 1, 1) := by decide +kernel
theorem dX9_cheapest_1 : decode cX9_cheapest 1 = .ok (.iconst 0, 1) := by decide +kernel
theorem dX9_cheapest_2 : decode cX9_cheapest 2 = .ok (.iconst 1, 1) := by decide +kernel
theorem dX9_cheapest_3 : decode cX9_cheapest 3 = .ok (.invokestatic 72, 3) := by decide +kernel
theorem dX9_cheapest_6 : decode cX9_cheapest 6 = .ok (.ifCond .ne 8, 3) := by decide +kernel
theorem dX9_cheapest_9 : decode cX9_cheapest 9 = .ok (.aload_n 0, 1) := by decide +kernel
theorem dX9_cheapest_10 : decode cX9_cheapest 10 = .ok (.invokevirtual 79, 3) := by decide +kernel
theorem dX9_cheapest_13 : decode cX9_cheapest 13 = .ok (.ireturn, 1) := by decide +kernel
theorem dX9_cheapest_14 : decode cX9_cheapest 14 = .ok (.aload_n 0, 1) := by decide +kernel
theorem dX9_cheapest_15 : decode cX9_cheapest 15 = .ok (.getfield 46, 3) := by decide +kernel
theorem dX9_cheapest_18 : decode cX9_cheapest 18 = .ok (.iconst (-1), 1) := by decide +kernel
theorem dX9_cheapest_19 : decode cX9_cheapest 19 = .ok (.invokevirtual 267, 3) := by decide +kernel
theorem dX9_cheapest_22 : decode cX9_cheapest 22 = .ok (.ifCond .ne 8, 3) := by decide +kernel
theorem dX9_cheapest_25 : decode cX9_cheapest 25 = .ok (.aload_n 0, 1) := by decide +kernel
theorem dX9_cheapest_26 : decode cX9_cheapest 26 = .ok (.invokevirtual 205, 3) := by decide +kernel
theorem dX9_cheapest_29 : decode cX9_cheapest 29 = .ok (.ireturn, 1) := by decide +kernel
theorem dX9_cheapest_30 : decode cX9_cheapest 30 = .ok (.iconst 0, 1) := by decide +kernel
theorem dX9_cheapest_31 : decode cX9_cheapest 31 = .ok (.istore_n 2, 1) := by decide +kernel
theorem dX9_cheapest_32 : decode cX9_cheapest 32 = .ok (.ldc_w 270, 3) := by decide +kernel
theorem dX9_cheapest_35 : decode cX9_cheapest 35 = .ok (.istore_n 3, 1) := by decide +kernel
theorem dX9_cheapest_36 : decode cX9_cheapest 36 = .ok (.iconst 0, 1) := by decide +kernel
theorem dX9_cheapest_37 : decode cX9_cheapest 37 = .ok (.istore 4, 2) := by decide +kernel
theorem dX9_cheapest_39 : decode cX9_cheapest 39 = .ok (.iload 4, 2) := by decide +kernel
theorem dX9_cheapest_41 : decode cX9_cheapest 41 = .ok (.iconst 5, 1) := by decide +kernel
theorem dX9_cheapest_42 : decode cX9_cheapest 42 = .ok (.if_icmp .ge 40, 3) := by decide +kernel
theorem dX9_cheapest_45 : decode cX9_cheapest 45 = .ok (.aload_n 0, 1) := by decide +kernel
theorem dX9_cheapest_46 : decode cX9_cheapest 46 = .ok (.getfield 64, 3) := by decide +kernel
theorem dX9_cheapest_49 : decode cX9_cheapest 49 = .ok (.iload 4, 2) := by decide +kernel
theorem dX9_cheapest_51 : decode cX9_cheapest 51 = .ok (.invokevirtual 271, 3) := by decide +kernel
theorem dX9_cheapest_54 : decode cX9_cheapest 54 = .ok (.aload_n 0, 1) := by decide +kernel
theorem dX9_cheapest_55 : decode cX9_cheapest 55 = .ok (.getfield 64, 3) := by decide +kernel
theorem dX9_cheapest_58 : decode cX9_cheapest 58 = .ok (.invokevirtual 239, 3) := by decide +kernel
theorem dX9_cheapest_61 : decode cX9_cheapest 61 = .ok (.iload_n 3, 1) := by decide +kernel
theorem dX9_cheapest_62 : decode cX9_cheapest 62 = .ok (.if_icmp .ge 14, 3) := by decide +kernel
theorem dX9_cheapest_65 : decode cX9_cheapest 65 = .ok (.iload 4, 2) := by decide +kernel
theorem dX9_cheapest_67 : decode cX9_cheapest 67 = .ok (.istore_n 2, 1) := by decide +kernel
theorem dX9_cheapest_68 : decode cX9_cheapest 68 = .ok (.aload_n 0, 1) := by decide +kernel
theorem dX9_cheapest_69 : decode cX9_cheapest 69 = .ok (.getfield 64, 3) := by decide +kernel
theorem dX9_cheapest_72 : decode cX9_cheapest 72 = .ok (.invokevirtual 239, 3) := by decide +kernel
theorem dX9_cheapest_75 : decode cX9_cheapest 75 = .ok (.istore_n 3, 1) := by decide +kernel
theorem dX9_cheapest_76 : decode cX9_cheapest 76 = .ok (.iinc 4 1, 3) := by decide +kernel
theorem dX9_cheapest_79 : decode cX9_cheapest 79 = .ok (.goto (-40), 3) := by decide +kernel
theorem dX9_cheapest_82 : decode cX9_cheapest 82 = .ok (.iload_n 1, 1) := by decide +kernel
theorem dX9_cheapest_83 : decode cX9_cheapest 83 = .ok (.ifCond .ne 7, 3) := by decide +kernel
theorem dX9_cheapest_86 : decode cX9_cheapest 86 = .ok (.iload_n 2, 1) := by decide +kernel
theorem dX9_cheapest_87 : decode cX9_cheapest 87 = .ok (.goto 4, 3) := by decide +kernel
theorem dX9_cheapest_90 : decode cX9_cheapest 90 = .ok (.iload_n 3, 1) := by decide +kernel
theorem dX9_cheapest_91 : decode cX9_cheapest 91 = .ok (.ireturn, 1) := by decide +kernel
theorem dX9_told_0 : decode cX9_told 0 = .ok (.iload_n 1, 1) := by decide +kernel
theorem dX9_told_1 : decode cX9_told 1 = .ok (.tableswitch 87 0 6 #[43, 48, 53, 58, 66, 74, 82], 43) := by decide +kernel
theorem dX9_told_44 : decode cX9_told 44 = .ok (.aload_n 0, 1) := by decide +kernel
theorem dX9_told_45 : decode cX9_told 45 = .ok (.getfield 202, 3) := by decide +kernel
theorem dX9_told_48 : decode cX9_told 48 = .ok (.ireturn, 1) := by decide +kernel
theorem dX9_told_49 : decode cX9_told 49 = .ok (.aload_n 0, 1) := by decide +kernel
theorem dX9_told_50 : decode cX9_told 50 = .ok (.getfield 274, 3) := by decide +kernel
theorem dX9_told_53 : decode cX9_told 53 = .ok (.ireturn, 1) := by decide +kernel
theorem dX9_told_54 : decode cX9_told 54 = .ok (.aload_n 0, 1) := by decide +kernel
theorem dX9_told_55 : decode cX9_told 55 = .ok (.getfield 277, 3) := by decide +kernel
theorem dX9_told_58 : decode cX9_told 58 = .ok (.ireturn, 1) := by decide +kernel
theorem dX9_told_59 : decode cX9_told 59 = .ok (.aload_n 0, 1) := by decide +kernel
theorem dX9_told_60 : decode cX9_told 60 = .ok (.getfield 33, 3) := by decide +kernel
theorem dX9_told_63 : decode cX9_told 63 = .ok (.getfield 147, 3) := by decide +kernel
theorem dX9_told_66 : decode cX9_told 66 = .ok (.ireturn, 1) := by decide +kernel
theorem dX9_told_67 : decode cX9_told 67 = .ok (.aload_n 0, 1) := by decide +kernel
theorem dX9_told_68 : decode cX9_told 68 = .ok (.getfield 10, 3) := by decide +kernel
theorem dX9_told_71 : decode cX9_told 71 = .ok (.getfield 83, 3) := by decide +kernel
theorem dX9_told_74 : decode cX9_told 74 = .ok (.ireturn, 1) := by decide +kernel
theorem dX9_told_75 : decode cX9_told 75 = .ok (.aload_n 0, 1) := by decide +kernel
theorem dX9_told_76 : decode cX9_told 76 = .ok (.getfield 19, 3) := by decide +kernel
theorem dX9_told_79 : decode cX9_told 79 = .ok (.getfield 163, 3) := by decide +kernel
theorem dX9_told_82 : decode cX9_told 82 = .ok (.ireturn, 1) := by decide +kernel
theorem dX9_told_83 : decode cX9_told 83 = .ok (.aload_n 0, 1) := by decide +kernel
theorem dX9_told_84 : decode cX9_told 84 = .ok (.getfield 144, 3) := by decide +kernel
theorem dX9_told_87 : decode cX9_told 87 = .ok (.ireturn, 1) := by decide +kernel
theorem dX9_told_88 : decode cX9_told 88 = .ok (.aload_n 0, 1) := by decide +kernel
theorem dX9_told_89 : decode cX9_told 89 = .ok (.invokevirtual 79, 3) := by decide +kernel
theorem dX9_told_92 : decode cX9_told 92 = .ok (.ireturn, 1) := by decide +kernel
theorem dX9_digest_0 : decode cX9_digest 0 = .ok (.ldc2_w 280, 3) := by decide +kernel
theorem dX9_digest_3 : decode cX9_digest 3 = .ok (.lstore_n 1, 1) := by decide +kernel
theorem dX9_digest_4 : decode cX9_digest 4 = .ok (.iconst 0, 1) := by decide +kernel
theorem dX9_digest_5 : decode cX9_digest 5 = .ok (.istore_n 3, 1) := by decide +kernel
theorem dX9_digest_6 : decode cX9_digest 6 = .ok (.iload_n 3, 1) := by decide +kernel
theorem dX9_digest_7 : decode cX9_digest 7 = .ok (.bipush 6, 2) := by decide +kernel
theorem dX9_digest_9 : decode cX9_digest 9 = .ok (.if_icmp .gt 22, 3) := by decide +kernel
theorem dX9_digest_12 : decode cX9_digest 12 = .ok (.ldc2_w 282, 3) := by decide +kernel
theorem dX9_digest_15 : decode cX9_digest 15 = .ok (.lload_n 1, 1) := by decide +kernel
theorem dX9_digest_16 : decode cX9_digest 16 = .ok (.lmul, 1) := by decide +kernel
theorem dX9_digest_17 : decode cX9_digest 17 = .ok (.aload_n 0, 1) := by decide +kernel
theorem dX9_digest_18 : decode cX9_digest 18 = .ok (.iload_n 3, 1) := by decide +kernel
theorem dX9_digest_19 : decode cX9_digest 19 = .ok (.invokevirtual 284, 3) := by decide +kernel
theorem dX9_digest_22 : decode cX9_digest 22 = .ok (.i2l, 1) := by decide +kernel
theorem dX9_digest_23 : decode cX9_digest 23 = .ok (.ladd, 1) := by decide +kernel
theorem dX9_digest_24 : decode cX9_digest 24 = .ok (.lstore_n 1, 1) := by decide +kernel
theorem dX9_digest_25 : decode cX9_digest 25 = .ok (.iinc 3 1, 3) := by decide +kernel
theorem dX9_digest_28 : decode cX9_digest 28 = .ok (.goto (-22), 3) := by decide +kernel
theorem dX9_digest_31 : decode cX9_digest 31 = .ok (.iconst 0, 1) := by decide +kernel
theorem dX9_digest_32 : decode cX9_digest 32 = .ok (.istore_n 3, 1) := by decide +kernel
theorem dX9_digest_33 : decode cX9_digest 33 = .ok (.iload_n 3, 1) := by decide +kernel
theorem dX9_digest_34 : decode cX9_digest 34 = .ok (.aload_n 0, 1) := by decide +kernel
theorem dX9_digest_35 : decode cX9_digest 35 = .ok (.getfield 10, 3) := by decide +kernel
theorem dX9_digest_38 : decode cX9_digest 38 = .ok (.getfield 83, 3) := by decide +kernel
theorem dX9_digest_41 : decode cX9_digest 41 = .ok (.if_icmp .ge 39, 3) := by decide +kernel
theorem dX9_digest_44 : decode cX9_digest 44 = .ok (.iconst 0, 1) := by decide +kernel
theorem dX9_digest_45 : decode cX9_digest 45 = .ok (.istore 4, 2) := by decide +kernel
theorem dX9_digest_47 : decode cX9_digest 47 = .ok (.iload 4, 2) := by decide +kernel
theorem dX9_digest_49 : decode cX9_digest 49 = .ok (.iconst 5, 1) := by decide +kernel
theorem dX9_digest_50 : decode cX9_digest 50 = .ok (.if_icmp .gt 24, 3) := by decide +kernel
theorem dX9_digest_53 : decode cX9_digest 53 = .ok (.ldc2_w 282, 3) := by decide +kernel
theorem dX9_digest_56 : decode cX9_digest 56 = .ok (.lload_n 1, 1) := by decide +kernel
theorem dX9_digest_57 : decode cX9_digest 57 = .ok (.lmul, 1) := by decide +kernel
theorem dX9_digest_58 : decode cX9_digest 58 = .ok (.aload_n 0, 1) := by decide +kernel
theorem dX9_digest_59 : decode cX9_digest 59 = .ok (.iload_n 3, 1) := by decide +kernel
theorem dX9_digest_60 : decode cX9_digest 60 = .ok (.iload 4, 2) := by decide +kernel
theorem dX9_digest_62 : decode cX9_digest 62 = .ok (.invokevirtual 287, 3) := by decide +kernel
theorem dX9_digest_65 : decode cX9_digest 65 = .ok (.i2l, 1) := by decide +kernel
theorem dX9_digest_66 : decode cX9_digest 66 = .ok (.ladd, 1) := by decide +kernel
theorem dX9_digest_67 : decode cX9_digest 67 = .ok (.lstore_n 1, 1) := by decide +kernel
theorem dX9_digest_68 : decode cX9_digest 68 = .ok (.iinc 4 1, 3) := by decide +kernel
theorem dX9_digest_71 : decode cX9_digest 71 = .ok (.goto (-24), 3) := by decide +kernel
theorem dX9_digest_74 : decode cX9_digest 74 = .ok (.iinc 3 1, 3) := by decide +kernel
theorem dX9_digest_77 : decode cX9_digest 77 = .ok (.goto (-44), 3) := by decide +kernel
theorem dX9_digest_80 : decode cX9_digest 80 = .ok (.iconst 0, 1) := by decide +kernel
theorem dX9_digest_81 : decode cX9_digest 81 = .ok (.istore_n 3, 1) := by decide +kernel
theorem dX9_digest_82 : decode cX9_digest 82 = .ok (.iload_n 3, 1) := by decide +kernel
theorem dX9_digest_83 : decode cX9_digest 83 = .ok (.bipush 6, 2) := by decide +kernel
theorem dX9_digest_85 : decode cX9_digest 85 = .ok (.if_icmp .ge 23, 3) := by decide +kernel
theorem dX9_digest_88 : decode cX9_digest 88 = .ok (.ldc2_w 282, 3) := by decide +kernel
theorem dX9_digest_91 : decode cX9_digest 91 = .ok (.lload_n 1, 1) := by decide +kernel
theorem dX9_digest_92 : decode cX9_digest 92 = .ok (.lmul, 1) := by decide +kernel
theorem dX9_digest_93 : decode cX9_digest 93 = .ok (.aload_n 0, 1) := by decide +kernel
theorem dX9_digest_94 : decode cX9_digest 94 = .ok (.getfield 37, 3) := by decide +kernel
theorem dX9_digest_97 : decode cX9_digest 97 = .ok (.iload_n 3, 1) := by decide +kernel
theorem dX9_digest_98 : decode cX9_digest 98 = .ok (.iaload, 1) := by decide +kernel
theorem dX9_digest_99 : decode cX9_digest 99 = .ok (.i2l, 1) := by decide +kernel
theorem dX9_digest_100 : decode cX9_digest 100 = .ok (.ladd, 1) := by decide +kernel
theorem dX9_digest_101 : decode cX9_digest 101 = .ok (.lstore_n 1, 1) := by decide +kernel
theorem dX9_digest_102 : decode cX9_digest 102 = .ok (.iinc 3 1, 3) := by decide +kernel
theorem dX9_digest_105 : decode cX9_digest 105 = .ok (.goto (-23), 3) := by decide +kernel
theorem dX9_digest_108 : decode cX9_digest 108 = .ok (.iconst 0, 1) := by decide +kernel
theorem dX9_digest_109 : decode cX9_digest 109 = .ok (.istore_n 3, 1) := by decide +kernel
theorem dX9_digest_110 : decode cX9_digest 110 = .ok (.iload_n 3, 1) := by decide +kernel
theorem dX9_digest_111 : decode cX9_digest 111 = .ok (.aload_n 0, 1) := by decide +kernel
theorem dX9_digest_112 : decode cX9_digest 112 = .ok (.getfield 19, 3) := by decide +kernel
theorem dX9_digest_115 : decode cX9_digest 115 = .ok (.getfield 163, 3) := by decide +kernel
theorem dX9_digest_118 : decode cX9_digest 118 = .ok (.if_icmp .ge 39, 3) := by decide +kernel
theorem dX9_digest_121 : decode cX9_digest 121 = .ok (.iconst 0, 1) := by decide +kernel
theorem dX9_digest_122 : decode cX9_digest 122 = .ok (.istore 4, 2) := by decide +kernel
theorem dX9_digest_124 : decode cX9_digest 124 = .ok (.iload 4, 2) := by decide +kernel
theorem dX9_digest_126 : decode cX9_digest 126 = .ok (.iconst 2, 1) := by decide +kernel
theorem dX9_digest_127 : decode cX9_digest 127 = .ok (.if_icmp .gt 24, 3) := by decide +kernel
theorem dX9_digest_130 : decode cX9_digest 130 = .ok (.ldc2_w 282, 3) := by decide +kernel
theorem dX9_digest_133 : decode cX9_digest 133 = .ok (.lload_n 1, 1) := by decide +kernel
theorem dX9_digest_134 : decode cX9_digest 134 = .ok (.lmul, 1) := by decide +kernel
theorem dX9_digest_135 : decode cX9_digest 135 = .ok (.aload_n 0, 1) := by decide +kernel
theorem dX9_digest_136 : decode cX9_digest 136 = .ok (.iload_n 3, 1) := by decide +kernel
theorem dX9_digest_137 : decode cX9_digest 137 = .ok (.iload 4, 2) := by decide +kernel
theorem dX9_digest_139 : decode cX9_digest 139 = .ok (.invokevirtual 290, 3) := by decide +kernel
theorem dX9_digest_142 : decode cX9_digest 142 = .ok (.i2l, 1) := by decide +kernel
theorem dX9_digest_143 : decode cX9_digest 143 = .ok (.ladd, 1) := by decide +kernel
theorem dX9_digest_144 : decode cX9_digest 144 = .ok (.lstore_n 1, 1) := by decide +kernel
theorem dX9_digest_145 : decode cX9_digest 145 = .ok (.iinc 4 1, 3) := by decide +kernel
theorem dX9_digest_148 : decode cX9_digest 148 = .ok (.goto (-24), 3) := by decide +kernel
theorem dX9_digest_151 : decode cX9_digest 151 = .ok (.iinc 3 1, 3) := by decide +kernel
theorem dX9_digest_154 : decode cX9_digest 154 = .ok (.goto (-44), 3) := by decide +kernel
theorem dX9_digest_157 : decode cX9_digest 157 = .ok (.ldc2_w 282, 3) := by decide +kernel
theorem dX9_digest_160 : decode cX9_digest 160 = .ok (.lload_n 1, 1) := by decide +kernel
theorem dX9_digest_161 : decode cX9_digest 161 = .ok (.lmul, 1) := by decide +kernel
theorem dX9_digest_162 : decode cX9_digest 162 = .ok (.aload_n 0, 1) := by decide +kernel
theorem dX9_digest_163 : decode cX9_digest 163 = .ok (.getfield 26, 3) := by decide +kernel
theorem dX9_digest_166 : decode cX9_digest 166 = .ok (.getfield 168, 3) := by decide +kernel
theorem dX9_digest_169 : decode cX9_digest 169 = .ok (.i2l, 1) := by decide +kernel
theorem dX9_digest_170 : decode cX9_digest 170 = .ok (.ladd, 1) := by decide +kernel
theorem dX9_digest_171 : decode cX9_digest 171 = .ok (.lstore_n 1, 1) := by decide +kernel
theorem dX9_digest_172 : decode cX9_digest 172 = .ok (.ldc2_w 282, 3) := by decide +kernel
theorem dX9_digest_175 : decode cX9_digest 175 = .ok (.lload_n 1, 1) := by decide +kernel
theorem dX9_digest_176 : decode cX9_digest 176 = .ok (.lmul, 1) := by decide +kernel
theorem dX9_digest_177 : decode cX9_digest 177 = .ok (.aload_n 0, 1) := by decide +kernel
theorem dX9_digest_178 : decode cX9_digest 178 = .ok (.getfield 26, 3) := by decide +kernel
theorem dX9_digest_181 : decode cX9_digest 181 = .ok (.getfield 184, 3) := by decide +kernel
theorem dX9_digest_184 : decode cX9_digest 184 = .ok (.i2l, 1) := by decide +kernel
theorem dX9_digest_185 : decode cX9_digest 185 = .ok (.ladd, 1) := by decide +kernel
theorem dX9_digest_186 : decode cX9_digest 186 = .ok (.lstore_n 1, 1) := by decide +kernel
theorem dX9_digest_187 : decode cX9_digest 187 = .ok (.aload_n 0, 1) := by decide +kernel
theorem dX9_digest_188 : decode cX9_digest 188 = .ok (.iconst (-1), 1) := by decide +kernel
theorem dX9_digest_189 : decode cX9_digest 189 = .ok (.invokevirtual 236, 3) := by decide +kernel
theorem dX9_digest_192 : decode cX9_digest 192 = .ok (.ifCond .ne 13, 3) := by decide +kernel
theorem dX9_digest_195 : decode cX9_digest 195 = .ok (.ldc2_w 282, 3) := by decide +kernel
theorem dX9_digest_198 : decode cX9_digest 198 = .ok (.lload_n 1, 1) := by decide +kernel
theorem dX9_digest_199 : decode cX9_digest 199 = .ok (.lmul, 1) := by decide +kernel
theorem dX9_digest_200 : decode cX9_digest 200 = .ok (.ldc2_w 293, 3) := by decide +kernel
theorem dX9_digest_203 : decode cX9_digest 203 = .ok (.ladd, 1) := by decide +kernel
theorem dX9_digest_204 : decode cX9_digest 204 = .ok (.lreturn, 1) := by decide +kernel
theorem dX9_digest_205 : decode cX9_digest 205 = .ok (.ldc2_w 282, 3) := by decide +kernel
theorem dX9_digest_208 : decode cX9_digest 208 = .ok (.lload_n 1, 1) := by decide +kernel
theorem dX9_digest_209 : decode cX9_digest 209 = .ok (.lmul, 1) := by decide +kernel
theorem dX9_digest_210 : decode cX9_digest 210 = .ok (.aload_n 0, 1) := by decide +kernel
theorem dX9_digest_211 : decode cX9_digest 211 = .ok (.getfield 64, 3) := by decide +kernel
theorem dX9_digest_214 : decode cX9_digest 214 = .ok (.invokevirtual 239, 3) := by decide +kernel
theorem dX9_digest_217 : decode cX9_digest 217 = .ok (.i2l, 1) := by decide +kernel
theorem dX9_digest_218 : decode cX9_digest 218 = .ok (.ladd, 1) := by decide +kernel
theorem dX9_digest_219 : decode cX9_digest 219 = .ok (.lstore_n 1, 1) := by decide +kernel
theorem dX9_digest_220 : decode cX9_digest 220 = .ok (.iconst 0, 1) := by decide +kernel
theorem dX9_digest_221 : decode cX9_digest 221 = .ok (.istore_n 3, 1) := by decide +kernel
theorem dX9_digest_222 : decode cX9_digest 222 = .ok (.iload_n 3, 1) := by decide +kernel
theorem dX9_digest_223 : decode cX9_digest 223 = .ok (.aload_n 0, 1) := by decide +kernel
theorem dX9_digest_224 : decode cX9_digest 224 = .ok (.getfield 19, 3) := by decide +kernel
theorem dX9_digest_227 : decode cX9_digest 227 = .ok (.getfield 163, 3) := by decide +kernel
theorem dX9_digest_230 : decode cX9_digest 230 = .ok (.if_icmp .ge 26, 3) := by decide +kernel
theorem dX9_digest_233 : decode cX9_digest 233 = .ok (.ldc2_w 282, 3) := by decide +kernel
theorem dX9_digest_236 : decode cX9_digest 236 = .ok (.lload_n 1, 1) := by decide +kernel
theorem dX9_digest_237 : decode cX9_digest 237 = .ok (.lmul, 1) := by decide +kernel
theorem dX9_digest_238 : decode cX9_digest 238 = .ok (.aload_n 0, 1) := by decide +kernel
theorem dX9_digest_239 : decode cX9_digest 239 = .ok (.getfield 64, 3) := by decide +kernel
theorem dX9_digest_242 : decode cX9_digest 242 = .ok (.getfield 242, 3) := by decide +kernel
theorem dX9_digest_245 : decode cX9_digest 245 = .ok (.iload_n 3, 1) := by decide +kernel
theorem dX9_digest_246 : decode cX9_digest 246 = .ok (.iaload, 1) := by decide +kernel
theorem dX9_digest_247 : decode cX9_digest 247 = .ok (.i2l, 1) := by decide +kernel
theorem dX9_digest_248 : decode cX9_digest 248 = .ok (.ladd, 1) := by decide +kernel
theorem dX9_digest_249 : decode cX9_digest 249 = .ok (.lstore_n 1, 1) := by decide +kernel
theorem dX9_digest_250 : decode cX9_digest 250 = .ok (.iinc 3 1, 3) := by decide +kernel
theorem dX9_digest_253 : decode cX9_digest 253 = .ok (.goto (-31), 3) := by decide +kernel
theorem dX9_digest_256 : decode cX9_digest 256 = .ok (.lload_n 1, 1) := by decide +kernel
theorem dX9_digest_257 : decode cX9_digest 257 = .ok (.lreturn, 1) := by decide +kernel
theorem dX9_findChain_0 : decode cX9_findChain 0 = .ok (.aload_n 0, 1) := by decide +kernel
theorem dX9_findChain_1 : decode cX9_findChain 1 = .ok (.getfield 46, 3) := by decide +kernel
theorem dX9_findChain_4 : decode cX9_findChain 4 = .ok (.iload_n 1, 1) := by decide +kernel
theorem dX9_findChain_5 : decode cX9_findChain 5 = .ok (.invokevirtual 267, 3) := by decide +kernel
theorem dX9_findChain_8 : decode cX9_findChain 8 = .ok (.ifCond .ne 5, 3) := by decide +kernel
theorem dX9_findChain_11 : decode cX9_findChain 11 = .ok (.iconst 0, 1) := by decide +kernel
theorem dX9_findChain_12 : decode cX9_findChain 12 = .ok (.ireturn, 1) := by decide +kernel
theorem dX9_findChain_13 : decode cX9_findChain 13 = .ok (.aload_n 0, 1) := by decide +kernel
theorem dX9_findChain_14 : decode cX9_findChain 14 = .ok (.getfield 64, 3) := by decide +kernel
theorem dX9_findChain_17 : decode cX9_findChain 17 = .ok (.aload_n 0, 1) := by decide +kernel
theorem dX9_findChain_18 : decode cX9_findChain 18 = .ok (.getfield 144, 3) := by decide +kernel
theorem dX9_findChain_21 : decode cX9_findChain 21 = .ok (.invokevirtual 271, 3) := by decide +kernel
theorem dX9_findChain_24 : decode cX9_findChain 24 = .ok (.aload_n 0, 1) := by decide +kernel
theorem dX9_findChain_25 : decode cX9_findChain 25 = .ok (.getfield 64, 3) := by decide +kernel
theorem dX9_findChain_28 : decode cX9_findChain 28 = .ok (.invokevirtual 295, 3) := by decide +kernel
theorem dX9_findChain_31 : decode cX9_findChain 31 = .ok (.iconst 1, 1) := by decide +kernel
theorem dX9_findChain_32 : decode cX9_findChain 32 = .ok (.ireturn, 1) := by decide +kernel
theorem dX9_emptyLeaves_0 : decode cX9_emptyLeaves 0 = .ok (.lconst 0, 1) := by decide +kernel
theorem dX9_emptyLeaves_1 : decode cX9_emptyLeaves 1 = .ok (.lstore_n 1, 1) := by decide +kernel
theorem dX9_emptyLeaves_2 : decode cX9_emptyLeaves 2 = .ok (.iconst 0, 1) := by decide +kernel
theorem dX9_emptyLeaves_3 : decode cX9_emptyLeaves 3 = .ok (.istore_n 3, 1) := by decide +kernel
theorem dX9_emptyLeaves_4 : decode cX9_emptyLeaves 4 = .ok (.iload_n 3, 1) := by decide +kernel
theorem dX9_emptyLeaves_5 : decode cX9_emptyLeaves 5 = .ok (.aload_n 0, 1) := by decide +kernel
theorem dX9_emptyLeaves_6 : decode cX9_emptyLeaves 6 = .ok (.getfield 10, 3) := by decide +kernel
theorem dX9_emptyLeaves_9 : decode cX9_emptyLeaves 9 = .ok (.getfield 83, 3) := by decide +kernel
theorem dX9_emptyLeaves_12 : decode cX9_emptyLeaves 12 = .ok (.if_icmp .ge 29, 3) := by decide +kernel
theorem dX9_emptyLeaves_15 : decode cX9_emptyLeaves 15 = .ok (.lload_n 1, 1) := by decide +kernel
theorem dX9_emptyLeaves_16 : decode cX9_emptyLeaves 16 = .ok (.lconst 1, 1) := by decide +kernel
theorem dX9_emptyLeaves_17 : decode cX9_emptyLeaves 17 = .ok (.aload_n 0, 1) := by decide +kernel
theorem dX9_emptyLeaves_18 : decode cX9_emptyLeaves 18 = .ok (.getfield 26, 3) := by decide +kernel
theorem dX9_emptyLeaves_21 : decode cX9_emptyLeaves 21 = .ok (.aload_n 0, 1) := by decide +kernel
theorem dX9_emptyLeaves_22 : decode cX9_emptyLeaves 22 = .ok (.getfield 46, 3) := by decide +kernel
theorem dX9_emptyLeaves_25 : decode cX9_emptyLeaves 25 = .ok (.iload_n 3, 1) := by decide +kernel
theorem dX9_emptyLeaves_26 : decode cX9_emptyLeaves 26 = .ok (.invokevirtual 190, 3) := by decide +kernel
theorem dX9_emptyLeaves_29 : decode cX9_emptyLeaves 29 = .ok (.invokevirtual 193, 3) := by decide +kernel
theorem dX9_emptyLeaves_32 : decode cX9_emptyLeaves 32 = .ok (.lshl, 1) := by decide +kernel
theorem dX9_emptyLeaves_33 : decode cX9_emptyLeaves 33 = .ok (.lor, 1) := by decide +kernel
theorem dX9_emptyLeaves_34 : decode cX9_emptyLeaves 34 = .ok (.lstore_n 1, 1) := by decide +kernel
theorem dX9_emptyLeaves_35 : decode cX9_emptyLeaves 35 = .ok (.iinc 3 1, 3) := by decide +kernel
theorem dX9_emptyLeaves_38 : decode cX9_emptyLeaves 38 = .ok (.goto (-34), 3) := by decide +kernel
theorem dX9_emptyLeaves_41 : decode cX9_emptyLeaves 41 = .ok (.aload_n 0, 1) := by decide +kernel
theorem dX9_emptyLeaves_42 : decode cX9_emptyLeaves 42 = .ok (.getfield 26, 3) := by decide +kernel
theorem dX9_emptyLeaves_45 : decode cX9_emptyLeaves 45 = .ok (.getfield 168, 3) := by decide +kernel
theorem dX9_emptyLeaves_48 : decode cX9_emptyLeaves 48 = .ok (.lload_n 1, 1) := by decide +kernel
theorem dX9_emptyLeaves_49 : decode cX9_emptyLeaves 49 = .ok (.invokestatic 298, 3) := by decide +kernel
theorem dX9_emptyLeaves_52 : decode cX9_emptyLeaves 52 = .ok (.isub, 1) := by decide +kernel
theorem dX9_emptyLeaves_53 : decode cX9_emptyLeaves 53 = .ok (.ireturn, 1) := by decide +kernel
theorem dX9_isUnit_0 : decode cX9_isUnit 0 = .ok (.iload_n 1, 1) := by decide +kernel
theorem dX9_isUnit_1 : decode cX9_isUnit 1 = .ok (.ifCond .lt 18, 3) := by decide +kernel
theorem dX9_isUnit_4 : decode cX9_isUnit 4 = .ok (.iload_n 1, 1) := by decide +kernel
theorem dX9_isUnit_5 : decode cX9_isUnit 5 = .ok (.aload_n 0, 1) := by decide +kernel
theorem dX9_isUnit_6 : decode cX9_isUnit 6 = .ok (.getfield 10, 3) := by decide +kernel
theorem dX9_isUnit_9 : decode cX9_isUnit 9 = .ok (.getfield 83, 3) := by decide +kernel
theorem dX9_isUnit_12 : decode cX9_isUnit 12 = .ok (.if_icmp .ge 7, 3) := by decide +kernel
theorem dX9_isUnit_15 : decode cX9_isUnit 15 = .ok (.iconst 1, 1) := by decide +kernel
theorem dX9_isUnit_16 : decode cX9_isUnit 16 = .ok (.goto 4, 3) := by decide +kernel
theorem dX9_isUnit_19 : decode cX9_isUnit 19 = .ok (.iconst 0, 1) := by decide +kernel
theorem dX9_isUnit_20 : decode cX9_isUnit 20 = .ok (.ireturn, 1) := by decide +kernel
theorem dX9_isTarget_0 : decode cX9_isTarget 0 = .ok (.iload_n 1, 1) := by decide +kernel
theorem dX9_isTarget_1 : decode cX9_isTarget 1 = .ok (.ifCond .lt 18, 3) := by decide +kernel
theorem dX9_isTarget_4 : decode cX9_isTarget 4 = .ok (.iload_n 1, 1) := by decide +kernel
theorem dX9_isTarget_5 : decode cX9_isTarget 5 = .ok (.aload_n 0, 1) := by decide +kernel
theorem dX9_isTarget_6 : decode cX9_isTarget 6 = .ok (.getfield 19, 3) := by decide +kernel
theorem dX9_isTarget_9 : decode cX9_isTarget 9 = .ok (.getfield 163, 3) := by decide +kernel
theorem dX9_isTarget_12 : decode cX9_isTarget 12 = .ok (.if_icmp .ge 7, 3) := by decide +kernel
theorem dX9_isTarget_15 : decode cX9_isTarget 15 = .ok (.iconst 1, 1) := by decide +kernel
theorem dX9_isTarget_16 : decode cX9_isTarget 16 = .ok (.goto 4, 3) := by decide +kernel
theorem dX9_isTarget_19 : decode cX9_isTarget 19 = .ok (.iconst 0, 1) := by decide +kernel
theorem dX9_isTarget_20 : decode cX9_isTarget 20 = .ok (.ireturn, 1) := by decide +kernel
theorem dX9_isPlace_0 : decode cX9_isPlace 0 = .ok (.aload_n 0, 1) := by decide +kernel
theorem dX9_isPlace_1 : decode cX9_isPlace 1 = .ok (.getfield 19, 3) := by decide +kernel
theorem dX9_isPlace_4 : decode cX9_isPlace 4 = .ok (.getfield 163, 3) := by decide +kernel
theorem dX9_isPlace_7 : decode cX9_isPlace 7 = .ok (.ifCond .ne 13, 3) := by decide +kernel
theorem dX9_isPlace_10 : decode cX9_isPlace 10 = .ok (.iload_n 1, 1) := by decide +kernel
theorem dX9_isPlace_11 : decode cX9_isPlace 11 = .ok (.iconst 0, 1) := by decide +kernel
theorem dX9_isPlace_12 : decode cX9_isPlace 12 = .ok (.bipush 7, 2) := by decide +kernel
theorem dX9_isPlace_14 : decode cX9_isPlace 14 = .ok (.invokestatic 72, 3) := by decide +kernel
theorem dX9_isPlace_17 : decode cX9_isPlace 17 = .ok (.goto 8, 3) := by decide +kernel
theorem dX9_isPlace_20 : decode cX9_isPlace 20 = .ok (.aload_n 0, 1) := by decide +kernel
theorem dX9_isPlace_21 : decode cX9_isPlace 21 = .ok (.iload_n 1, 1) := by decide +kernel
theorem dX9_isPlace_22 : decode cX9_isPlace 22 = .ok (.invokevirtual 171, 3) := by decide +kernel
theorem dX9_isPlace_25 : decode cX9_isPlace 25 = .ok (.ireturn, 1) := by decide +kernel
theorem dX9_isSound_0 : decode cX9_isSound 0 = .ok (.iload_n 0, 1) := by decide +kernel
theorem dX9_isSound_1 : decode cX9_isSound 1 = .ok (.iconst 0, 1) := by decide +kernel
theorem dX9_isSound_2 : decode cX9_isSound 2 = .ok (.iconst 5, 1) := by decide +kernel
theorem dX9_isSound_3 : decode cX9_isSound 3 = .ok (.invokestatic 72, 3) := by decide +kernel
theorem dX9_isSound_6 : decode cX9_isSound 6 = .ok (.ireturn, 1) := by decide +kernel
theorem dX9_isTake_0 : decode cX9_isTake 0 = .ok (.iload_n 0, 1) := by decide +kernel
theorem dX9_isTake_1 : decode cX9_isTake 1 = .ok (.iconst 0, 1) := by decide +kernel
theorem dX9_isTake_2 : decode cX9_isTake 2 = .ok (.iconst 3, 1) := by decide +kernel
theorem dX9_isTake_3 : decode cX9_isTake 3 = .ok (.invokestatic 72, 3) := by decide +kernel
theorem dX9_isTake_6 : decode cX9_isTake 6 = .ok (.ireturn, 1) := by decide +kernel
theorem dX9_within_0 : decode cX9_within 0 = .ok (.iload_n 0, 1) := by decide +kernel
theorem dX9_within_1 : decode cX9_within 1 = .ok (.iload_n 1, 1) := by decide +kernel
theorem dX9_within_2 : decode cX9_within 2 = .ok (.if_icmp .lt 12, 3) := by decide +kernel
theorem dX9_within_5 : decode cX9_within 5 = .ok (.iload_n 0, 1) := by decide +kernel
theorem dX9_within_6 : decode cX9_within 6 = .ok (.iload_n 2, 1) := by decide +kernel
theorem dX9_within_7 : decode cX9_within 7 = .ok (.if_icmp .gt 7, 3) := by decide +kernel
theorem dX9_within_10 : decode cX9_within 10 = .ok (.iconst 1, 1) := by decide +kernel
theorem dX9_within_11 : decode cX9_within 11 = .ok (.goto 4, 3) := by decide +kernel
theorem dX9_within_14 : decode cX9_within 14 = .ok (.iconst 0, 1) := by decide +kernel
theorem dX9_within_15 : decode cX9_within 15 = .ok (.ireturn, 1) := by decide +kernel
theorem dX9_bad_0 : decode cX9_bad 0 = .ok (.aload_n 0, 1) := by decide +kernel
theorem dX9_bad_1 : decode cX9_bad 1 = .ok (.dup, 1) := by decide +kernel
theorem dX9_bad_2 : decode cX9_bad 2 = .ok (.getfield 202, 3) := by decide +kernel
theorem dX9_bad_5 : decode cX9_bad 5 = .ok (.iconst 1, 1) := by decide +kernel
theorem dX9_bad_6 : decode cX9_bad 6 = .ok (.iadd, 1) := by decide +kernel
theorem dX9_bad_7 : decode cX9_bad 7 = .ok (.putfield 202, 3) := by decide +kernel
theorem dX9_bad_10 : decode cX9_bad 10 = .ok (.bipush (-2), 2) := by decide +kernel
theorem dX9_bad_12 : decode cX9_bad 12 = .ok (.ireturn, 1) := by decide +kernel
theorem dX9_no_0 : decode cX9_no 0 = .ok (.aload_n 0, 1) := by decide +kernel
theorem dX9_no_1 : decode cX9_no 1 = .ok (.dup, 1) := by decide +kernel
theorem dX9_no_2 : decode cX9_no 2 = .ok (.getfield 274, 3) := by decide +kernel
theorem dX9_no_5 : decode cX9_no 5 = .ok (.iconst 1, 1) := by decide +kernel
theorem dX9_no_6 : decode cX9_no 6 = .ok (.iadd, 1) := by decide +kernel
theorem dX9_no_7 : decode cX9_no 7 = .ok (.putfield 274, 3) := by decide +kernel
theorem dX9_no_10 : decode cX9_no 10 = .ok (.bipush (-3), 2) := by decide +kernel
theorem dX9_no_12 : decode cX9_no 12 = .ok (.ireturn, 1) := by decide +kernel
theorem dX9_full_0 : decode cX9_full 0 = .ok (.aload_n 0, 1) := by decide +kernel
theorem dX9_full_1 : decode cX9_full 1 = .ok (.dup, 1) := by decide +kernel
theorem dX9_full_2 : decode cX9_full 2 = .ok (.getfield 277, 3) := by decide +kernel
theorem dX9_full_5 : decode cX9_full 5 = .ok (.iconst 1, 1) := by decide +kernel
theorem dX9_full_6 : decode cX9_full 6 = .ok (.iadd, 1) := by decide +kernel
theorem dX9_full_7 : decode cX9_full 7 = .ok (.putfield 277, 3) := by decide +kernel
theorem dX9_full_10 : decode cX9_full 10 = .ok (.bipush (-4), 2) := by decide +kernel
theorem dX9_full_12 : decode cX9_full 12 = .ok (.ireturn, 1) := by decide +kernel
end
section
theorem dX10_init_0 : decode cX10_init 0 = .ok (.aload_n 0, 1) := by decide +kernel
theorem dX10_init_1 : decode cX10_init 1 = .ok (.invokespecial 1, 3) := by decide +kernel
theorem dX10_init_4 : decode cX10_init 4 = .ok (.aload_n 0, 1) := by decide +kernel
theorem dX10_init_5 : decode cX10_init 5 = .ok (.sipush 240, 3) := by decide +kernel
theorem dX10_init_8 : decode cX10_init 8 = .ok (.newarray .int, 2) := by decide +kernel
theorem dX10_init_10 : decode cX10_init 10 = .ok (.putfield 7, 3) := by decide +kernel
theorem dX10_init_13 : decode cX10_init 13 = .ok (.aload_n 0, 1) := by decide +kernel
theorem dX10_init_14 : decode cX10_init 14 = .ok (.bipush 24, 2) := by decide +kernel
theorem dX10_init_16 : decode cX10_init 16 = .ok (.newarray .int, 2) := by decide +kernel
theorem dX10_init_18 : decode cX10_init 18 = .ok (.putfield 13, 3) := by decide +kernel
theorem dX10_init_21 : decode cX10_init 21 = .ok (.aload_n 0, 1) := by decide +kernel
theorem dX10_init_22 : decode cX10_init 22 = .ok (.bipush 6, 2) := by decide +kernel
theorem dX10_init_24 : decode cX10_init 24 = .ok (.newarray .int, 2) := by decide +kernel
theorem dX10_init_26 : decode cX10_init 26 = .ok (.putfield 16, 3) := by decide +kernel
theorem dX10_init_29 : decode cX10_init 29 = .ok (.aload_n 0, 1) := by decide +kernel
theorem dX10_init_30 : decode cX10_init 30 = .ok (.sipush 128, 3) := by decide +kernel
theorem dX10_init_33 : decode cX10_init 33 = .ok (.newarray .int, 2) := by decide +kernel
theorem dX10_init_35 : decode cX10_init 35 = .ok (.putfield 19, 3) := by decide +kernel
theorem dX10_init_38 : decode cX10_init 38 = .ok (.aload_n 0, 1) := by decide +kernel
theorem dX10_init_39 : decode cX10_init 39 = .ok (.sipush 128, 3) := by decide +kernel
theorem dX10_init_42 : decode cX10_init 42 = .ok (.newarray .int, 2) := by decide +kernel
theorem dX10_init_44 : decode cX10_init 44 = .ok (.putfield 22, 3) := by decide +kernel
theorem dX10_init_47 : decode cX10_init 47 = .ok (.aload_n 0, 1) := by decide +kernel
theorem dX10_init_48 : decode cX10_init 48 = .ok (.sipush 128, 3) := by decide +kernel
theorem dX10_init_51 : decode cX10_init 51 = .ok (.newarray .int, 2) := by decide +kernel
theorem dX10_init_53 : decode cX10_init 53 = .ok (.putfield 25, 3) := by decide +kernel
theorem dX10_init_56 : decode cX10_init 56 = .ok (.aload_n 0, 1) := by decide +kernel
theorem dX10_init_57 : decode cX10_init 57 = .ok (.sipush 128, 3) := by decide +kernel
theorem dX10_init_60 : decode cX10_init 60 = .ok (.newarray .int, 2) := by decide +kernel
theorem dX10_init_62 : decode cX10_init 62 = .ok (.putfield 28, 3) := by decide +kernel
theorem dX10_init_65 : decode cX10_init 65 = .ok (.aload_n 0, 1) := by decide +kernel
theorem dX10_init_66 : decode cX10_init 66 = .ok (.iconst 1, 1) := by decide +kernel
theorem dX10_init_67 : decode cX10_init 67 = .ok (.putfield 31, 3) := by decide +kernel
theorem dX10_init_70 : decode cX10_init 70 = .ok (.aload_n 0, 1) := by decide +kernel
theorem dX10_init_71 : decode cX10_init 71 = .ok (.iconst 3, 1) := by decide +kernel
theorem dX10_init_72 : decode cX10_init 72 = .ok (.newarray .int, 2) := by decide +kernel
theorem dX10_init_74 : decode cX10_init 74 = .ok (.putfield 35, 3) := by decide +kernel
theorem dX10_init_77 : decode cX10_init 77 = .ok (.aload_n 0, 1) := by decide +kernel
theorem dX10_init_78 : decode cX10_init 78 = .ok (.bipush 120, 2) := by decide +kernel
theorem dX10_init_80 : decode cX10_init 80 = .ok (.newarray .int, 2) := by decide +kernel
theorem dX10_init_82 : decode cX10_init 82 = .ok (.putfield 38, 3) := by decide +kernel
theorem dX10_init_85 : decode cX10_init 85 = .ok (.aload_n 0, 1) := by decide +kernel
theorem dX10_init_86 : decode cX10_init 86 = .ok (.bipush 24, 2) := by decide +kernel
theorem dX10_init_88 : decode cX10_init 88 = .ok (.newarray .int, 2) := by decide +kernel
theorem dX10_init_90 : decode cX10_init 90 = .ok (.putfield 41, 3) := by decide +kernel
theorem dX10_init_93 : decode cX10_init 93 = .ok (.aload_n 0, 1) := by decide +kernel
theorem dX10_init_94 : decode cX10_init 94 = .ok (.sipush 128, 3) := by decide +kernel
theorem dX10_init_97 : decode cX10_init 97 = .ok (.newarray .int, 2) := by decide +kernel
theorem dX10_init_99 : decode cX10_init 99 = .ok (.putfield 44, 3) := by decide +kernel
theorem dX10_init_102 : decode cX10_init 102 = .ok (.aload_n 0, 1) := by decide +kernel
theorem dX10_init_103 : decode cX10_init 103 = .ok (.sipush 128, 3) := by decide +kernel
theorem dX10_init_106 : decode cX10_init 106 = .ok (.newarray .int, 2) := by decide +kernel
theorem dX10_init_108 : decode cX10_init 108 = .ok (.putfield 47, 3) := by decide +kernel
theorem dX10_init_111 : decode cX10_init 111 = .ok (.aload_n 0, 1) := by decide +kernel
theorem dX10_init_112 : decode cX10_init 112 = .ok (.sipush 128, 3) := by decide +kernel
theorem dX10_init_115 : decode cX10_init 115 = .ok (.newarray .int, 2) := by decide +kernel
theorem dX10_init_117 : decode cX10_init 117 = .ok (.putfield 50, 3) := by decide +kernel
theorem dX10_init_120 : decode cX10_init 120 = .ok (.aload_n 0, 1) := by decide +kernel
theorem dX10_init_121 : decode cX10_init 121 = .ok (.sipush 128, 3) := by decide +kernel
theorem dX10_init_124 : decode cX10_init 124 = .ok (.newarray .int, 2) := by decide +kernel
theorem dX10_init_126 : decode cX10_init 126 = .ok (.putfield 53, 3) := by decide +kernel
theorem dX10_init_129 : decode cX10_init 129 = .ok (.aload_n 0, 1) := by decide +kernel
theorem dX10_init_130 : decode cX10_init 130 = .ok (.bipush 8, 2) := by decide +kernel
theorem dX10_init_132 : decode cX10_init 132 = .ok (.newarray .int, 2) := by decide +kernel
theorem dX10_init_134 : decode cX10_init 134 = .ok (.putfield 56, 3) := by decide +kernel
theorem dX10_init_137 : decode cX10_init 137 = .ok (.aload_n 0, 1) := by decide +kernel
theorem dX10_init_138 : decode cX10_init 138 = .ok (.bipush 8, 2) := by decide +kernel
theorem dX10_init_140 : decode cX10_init 140 = .ok (.newarray .int, 2) := by decide +kernel
theorem dX10_init_142 : decode cX10_init 142 = .ok (.putfield 59, 3) := by decide +kernel
theorem dX10_init_145 : decode cX10_init 145 = .ok (.aload_n 0, 1) := by decide +kernel
theorem dX10_init_146 : decode cX10_init 146 = .ok (.sipush 320, 3) := by decide +kernel
theorem dX10_init_149 : decode cX10_init 149 = .ok (.newarray .int, 2) := by decide +kernel
theorem dX10_init_151 : decode cX10_init 151 = .ok (.putfield 62, 3) := by decide +kernel
theorem dX10_init_154 : decode cX10_init 154 = .ok (.aload_n 0, 1) := by decide +kernel
theorem dX10_init_155 : decode cX10_init 155 = .ok (.bipush 8, 2) := by decide +kernel
theorem dX10_init_157 : decode cX10_init 157 = .ok (.newarray .int, 2) := by decide +kernel
theorem dX10_init_159 : decode cX10_init 159 = .ok (.putfield 65, 3) := by decide +kernel
theorem dX10_init_162 : decode cX10_init 162 = .ok (.aload_n 0, 1) := by decide +kernel
theorem dX10_init_163 : decode cX10_init 163 = .ok (.iconst (-1), 1) := by decide +kernel
theorem dX10_init_164 : decode cX10_init 164 = .ok (.putfield 68, 3) := by decide +kernel
theorem dX10_init_167 : decode cX10_init 167 = .ok (.aload_n 0, 1) := by decide +kernel
theorem dX10_init_168 : decode cX10_init 168 = .ok (.sipush 320, 3) := by decide +kernel
theorem dX10_init_171 : decode cX10_init 171 = .ok (.newarray .int, 2) := by decide +kernel
theorem dX10_init_173 : decode cX10_init 173 = .ok (.putfield 71, 3) := by decide +kernel
theorem dX10_init_176 : decode cX10_init 176 = .ok (.aload_n 0, 1) := by decide +kernel
theorem dX10_init_177 : decode cX10_init 177 = .ok (.sipush 320, 3) := by decide +kernel
theorem dX10_init_180 : decode cX10_init 180 = .ok (.newarray .int, 2) := by decide +kernel
theorem dX10_init_182 : decode cX10_init 182 = .ok (.putfield 74, 3) := by decide +kernel
theorem dX10_init_185 : decode cX10_init 185 = .ok (.aload_n 0, 1) := by decide +kernel
theorem dX10_init_186 : decode cX10_init 186 = .ok (.sipush 320, 3) := by decide +kernel
theorem dX10_init_189 : decode cX10_init 189 = .ok (.newarray .int, 2) := by decide +kernel
theorem dX10_init_191 : decode cX10_init 191 = .ok (.putfield 77, 3) := by decide +kernel
theorem dX10_init_194 : decode cX10_init 194 = .ok (.aload_n 0, 1) := by decide +kernel
theorem dX10_init_195 : decode cX10_init 195 = .ok (.sipush 320, 3) := by decide +kernel
theorem dX10_init_198 : decode cX10_init 198 = .ok (.newarray .int, 2) := by decide +kernel
theorem dX10_init_200 : decode cX10_init 200 = .ok (.putfield 80, 3) := by decide +kernel
theorem dX10_init_203 : decode cX10_init 203 = .ok (.aload_n 0, 1) := by decide +kernel
theorem dX10_init_204 : decode cX10_init 204 = .ok (.bipush 8, 2) := by decide +kernel
theorem dX10_init_206 : decode cX10_init 206 = .ok (.newarray .int, 2) := by decide +kernel
theorem dX10_init_208 : decode cX10_init 208 = .ok (.putfield 83, 3) := by decide +kernel
theorem dX10_init_211 : decode cX10_init 211 = .ok (.iconst 0, 1) := by decide +kernel
theorem dX10_init_212 : decode cX10_init 212 = .ok (.istore_n 1, 1) := by decide +kernel
theorem dX10_init_213 : decode cX10_init 213 = .ok (.iload_n 1, 1) := by decide +kernel
theorem dX10_init_214 : decode cX10_init 214 = .ok (.bipush 6, 2) := by decide +kernel
theorem dX10_init_216 : decode cX10_init 216 = .ok (.if_icmp .ge 16, 3) := by decide +kernel
theorem dX10_init_219 : decode cX10_init 219 = .ok (.aload_n 0, 1) := by decide +kernel
theorem dX10_init_220 : decode cX10_init 220 = .ok (.getfield 16, 3) := by decide +kernel
theorem dX10_init_223 : decode cX10_init 223 = .ok (.iload_n 1, 1) := by decide +kernel
theorem dX10_init_224 : decode cX10_init 224 = .ok (.iload_n 1, 1) := by decide +kernel
theorem dX10_init_225 : decode cX10_init 225 = .ok (.iastore, 1) := by decide +kernel
theorem dX10_init_226 : decode cX10_init 226 = .ok (.iinc 1 1, 3) := by decide +kernel
theorem dX10_init_229 : decode cX10_init 229 = .ok (.goto (-16), 3) := by decide +kernel
theorem dX10_init_232 : decode cX10_init 232 = .ok (.return_, 1) := by decide +kernel
theorem dX10_in_0 : decode cX10_in 0 = .ok (.lload_n 0, 1) := by decide +kernel
theorem dX10_in_1 : decode cX10_in 1 = .ok (.lload_n 2, 1) := by decide +kernel
theorem dX10_in_2 : decode cX10_in 2 = .ok (.lcmp, 1) := by decide +kernel
theorem dX10_in_3 : decode cX10_in 3 = .ok (.ifCond .lt 14, 3) := by decide +kernel
theorem dX10_in_6 : decode cX10_in 6 = .ok (.lload_n 0, 1) := by decide +kernel
theorem dX10_in_7 : decode cX10_in 7 = .ok (.lload 4, 2) := by decide +kernel
theorem dX10_in_9 : decode cX10_in 9 = .ok (.lcmp, 1) := by decide +kernel
theorem dX10_in_10 : decode cX10_in 10 = .ok (.ifCond .gt 7, 3) := by decide +kernel
theorem dX10_in_13 : decode cX10_in 13 = .ok (.iconst 1, 1) := by decide +kernel
theorem dX10_in_14 : decode cX10_in 14 = .ok (.goto 4, 3) := by decide +kernel
theorem dX10_in_17 : decode cX10_in 17 = .ok (.iconst 0, 1) := by decide +kernel
theorem dX10_in_18 : decode cX10_in 18 = .ok (.ireturn, 1) := by decide +kernel
theorem dX10_bad_0 : decode cX10_bad 0 = .ok (.aload_n 0, 1) := by decide +kernel
theorem dX10_bad_1 : decode cX10_bad 1 = .ok (.getfield 35, 3) := by decide +kernel
theorem dX10_bad_4 : decode cX10_bad 4 = .ok (.iconst 0, 1) := by decide +kernel
theorem dX10_bad_5 : decode cX10_bad 5 = .ok (.dup2, 1) := by decide +kernel
theorem dX10_bad_6 : decode cX10_bad 6 = .ok (.iaload, 1) := by decide +kernel
theorem dX10_bad_7 : decode cX10_bad 7 = .ok (.iconst 1, 1) := by decide +kernel
theorem dX10_bad_8 : decode cX10_bad 8 = .ok (.iadd, 1) := by decide +kernel
theorem dX10_bad_9 : decode cX10_bad 9 = .ok (.iastore, 1) := by decide +kernel
theorem dX10_bad_10 : decode cX10_bad 10 = .ok (.iload_n 1, 1) := by decide +kernel
theorem dX10_bad_11 : decode cX10_bad 11 = .ok (.ireturn, 1) := by decide +kernel
theorem dX10_no_0 : decode cX10_no 0 = .ok (.aload_n 0, 1) := by decide +kernel
theorem dX10_no_1 : decode cX10_no 1 = .ok (.getfield 35, 3) := by decide +kernel
theorem dX10_no_4 : decode cX10_no 4 = .ok (.iconst 1, 1) := by decide +kernel
theorem dX10_no_5 : decode cX10_no 5 = .ok (.dup2, 1) := by decide +kernel
theorem dX10_no_6 : decode cX10_no 6 = .ok (.iaload, 1) := by decide +kernel
theorem dX10_no_7 : decode cX10_no 7 = .ok (.iconst 1, 1) := by decide +kernel
theorem dX10_no_8 : decode cX10_no 8 = .ok (.iadd, 1) := by decide +kernel
theorem dX10_no_9 : decode cX10_no 9 = .ok (.iastore, 1) := by decide +kernel
theorem dX10_no_10 : decode cX10_no 10 = .ok (.bipush (-3), 2) := by decide +kernel
theorem dX10_no_12 : decode cX10_no 12 = .ok (.ireturn, 1) := by decide +kernel
theorem dX10_full_0 : decode cX10_full 0 = .ok (.aload_n 0, 1) := by decide +kernel
theorem dX10_full_1 : decode cX10_full 1 = .ok (.getfield 35, 3) := by decide +kernel
theorem dX10_full_4 : decode cX10_full 4 = .ok (.iconst 2, 1) := by decide +kernel
theorem dX10_full_5 : decode cX10_full 5 = .ok (.dup2, 1) := by decide +kernel
theorem dX10_full_6 : decode cX10_full 6 = .ok (.iaload, 1) := by decide +kernel
theorem dX10_full_7 : decode cX10_full 7 = .ok (.iconst 1, 1) := by decide +kernel
theorem dX10_full_8 : decode cX10_full 8 = .ok (.iadd, 1) := by decide +kernel
theorem dX10_full_9 : decode cX10_full 9 = .ok (.iastore, 1) := by decide +kernel
theorem dX10_full_10 : decode cX10_full 10 = .ok (.bipush (-4), 2) := by decide +kernel
theorem dX10_full_12 : decode cX10_full 12 = .ok (.ireturn, 1) := by decide +kernel
theorem dX10_far_0 : decode cX10_far 0 = .ok (.iload_n 0, 1) := by decide +kernel
theorem dX10_far_1 : decode cX10_far 1 = .ok (.iload_n 1, 1) := by decide +kernel
theorem dX10_far_2 : decode cX10_far 2 = .ok (.if_icmp .le 9, 3) := by decide +kernel
theorem dX10_far_5 : decode cX10_far 5 = .ok (.iload_n 0, 1) := by decide +kernel
theorem dX10_far_6 : decode cX10_far 6 = .ok (.iload_n 1, 1) := by decide +kernel
theorem dX10_far_7 : decode cX10_far 7 = .ok (.isub, 1) := by decide +kernel
theorem dX10_far_8 : decode cX10_far 8 = .ok (.goto 6, 3) := by decide +kernel
theorem dX10_far_11 : decode cX10_far 11 = .ok (.iload_n 1, 1) := by decide +kernel
theorem dX10_far_12 : decode cX10_far 12 = .ok (.iload_n 0, 1) := by decide +kernel
theorem dX10_far_13 : decode cX10_far 13 = .ok (.isub, 1) := by decide +kernel
theorem dX10_far_14 : decode cX10_far 14 = .ok (.ireturn, 1) := by decide +kernel
theorem dX10_at_0 : decode cX10_at 0 = .ok (.aload_n 0, 1) := by decide +kernel
theorem dX10_at_1 : decode cX10_at 1 = .ok (.getfield 7, 3) := by decide +kernel
theorem dX10_at_4 : decode cX10_at 4 = .ok (.bipush 6, 2) := by decide +kernel
theorem dX10_at_6 : decode cX10_at 6 = .ok (.iload_n 1, 1) := by decide +kernel
theorem dX10_at_7 : decode cX10_at 7 = .ok (.imul, 1) := by decide +kernel
theorem dX10_at_8 : decode cX10_at 8 = .ok (.iload_n 2, 1) := by decide +kernel
theorem dX10_at_9 : decode cX10_at 9 = .ok (.iadd, 1) := by decide +kernel
theorem dX10_at_10 : decode cX10_at 10 = .ok (.iaload, 1) := by decide +kernel
theorem dX10_at_11 : decode cX10_at 11 = .ok (.ireturn, 1) := by decide +kernel
theorem dX10_isUnit_0 : decode cX10_isUnit 0 = .ok (.iload_n 1, 1) := by decide +kernel
theorem dX10_isUnit_1 : decode cX10_isUnit 1 = .ok (.i2l, 1) := by decide +kernel
theorem dX10_isUnit_2 : decode cX10_isUnit 2 = .ok (.lconst 0, 1) := by decide +kernel
theorem dX10_isUnit_3 : decode cX10_isUnit 3 = .ok (.aload_n 0, 1) := by decide +kernel
theorem dX10_isUnit_4 : decode cX10_isUnit 4 = .ok (.getfield 86, 3) := by decide +kernel
theorem dX10_isUnit_7 : decode cX10_isUnit 7 = .ok (.iconst 1, 1) := by decide +kernel
theorem dX10_isUnit_8 : decode cX10_isUnit 8 = .ok (.isub, 1) := by decide +kernel
theorem dX10_isUnit_9 : decode cX10_isUnit 9 = .ok (.i2l, 1) := by decide +kernel
theorem dX10_isUnit_10 : decode cX10_isUnit 10 = .ok (.invokestatic 89, 3) := by decide +kernel
theorem dX10_isUnit_13 : decode cX10_isUnit 13 = .ok (.ireturn, 1) := by decide +kernel
theorem dX10_isSound_0 : decode cX10_isSound 0 = .ok (.iload_n 0, 1) := by decide +kernel
theorem dX10_isSound_1 : decode cX10_isSound 1 = .ok (.i2l, 1) := by decide +kernel
theorem dX10_isSound_2 : decode cX10_isSound 2 = .ok (.lconst 0, 1) := by decide +kernel
theorem dX10_isSound_3 : decode cX10_isSound 3 = .ok (.ldc2_w 93, 3) := by decide +kernel
theorem dX10_isSound_6 : decode cX10_isSound 6 = .ok (.invokestatic 89, 3) := by decide +kernel
theorem dX10_isSound_9 : decode cX10_isSound 9 = .ok (.ireturn, 1) := by decide +kernel
theorem dX10_lays_0 : decode cX10_lays 0 = .ok (.bipush 6, 2) := by decide +kernel
theorem dX10_lays_2 : decode cX10_lays 2 = .ok (.aload_n 0, 1) := by decide +kernel
theorem dX10_lays_3 : decode cX10_lays 3 = .ok (.getfield 86, 3) := by decide +kernel
theorem dX10_lays_6 : decode cX10_lays 6 = .ok (.imul, 1) := by decide +kernel
theorem dX10_lays_7 : decode cX10_lays 7 = .ok (.istore 7, 2) := by decide +kernel
theorem dX10_lays_9 : decode cX10_lays 9 = .ok (.aload_n 0, 1) := by decide +kernel
theorem dX10_lays_10 : decode cX10_lays 10 = .ok (.getfield 7, 3) := by decide +kernel
theorem dX10_lays_13 : decode cX10_lays 13 = .ok (.iload 7, 2) := by decide +kernel
theorem dX10_lays_15 : decode cX10_lays 15 = .ok (.iload_n 1, 1) := by decide +kernel
theorem dX10_lays_16 : decode cX10_lays 16 = .ok (.iastore, 1) := by decide +kernel
theorem dX10_lays_17 : decode cX10_lays 17 = .ok (.aload_n 0, 1) := by decide +kernel
theorem dX10_lays_18 : decode cX10_lays 18 = .ok (.getfield 7, 3) := by decide +kernel
theorem dX10_lays_21 : decode cX10_lays 21 = .ok (.iload 7, 2) := by decide +kernel
theorem dX10_lays_23 : decode cX10_lays 23 = .ok (.iconst 1, 1) := by decide +kernel
theorem dX10_lays_24 : decode cX10_lays 24 = .ok (.iadd, 1) := by decide +kernel
theorem dX10_lays_25 : decode cX10_lays 25 = .ok (.iload_n 2, 1) := by decide +kernel
theorem dX10_lays_26 : decode cX10_lays 26 = .ok (.iastore, 1) := by decide +kernel
theorem dX10_lays_27 : decode cX10_lays 27 = .ok (.aload_n 0, 1) := by decide +kernel
theorem dX10_lays_28 : decode cX10_lays 28 = .ok (.getfield 7, 3) := by decide +kernel
theorem dX10_lays_31 : decode cX10_lays 31 = .ok (.iload 7, 2) := by decide +kernel
theorem dX10_lays_33 : decode cX10_lays 33 = .ok (.iconst 2, 1) := by decide +kernel
theorem dX10_lays_34 : decode cX10_lays 34 = .ok (.iadd, 1) := by decide +kernel
theorem dX10_lays_35 : decode cX10_lays 35 = .ok (.iload_n 3, 1) := by decide +kernel
theorem dX10_lays_36 : decode cX10_lays 36 = .ok (.iastore, 1) := by decide +kernel
theorem dX10_lays_37 : decode cX10_lays 37 = .ok (.aload_n 0, 1) := by decide +kernel
theorem dX10_lays_38 : decode cX10_lays 38 = .ok (.getfield 7, 3) := by decide +kernel
theorem dX10_lays_41 : decode cX10_lays 41 = .ok (.iload 7, 2) := by decide +kernel
theorem dX10_lays_43 : decode cX10_lays 43 = .ok (.iconst 3, 1) := by decide +kernel
theorem dX10_lays_44 : decode cX10_lays 44 = .ok (.iadd, 1) := by decide +kernel
theorem dX10_lays_45 : decode cX10_lays 45 = .ok (.iload 4, 2) := by decide +kernel
theorem dX10_lays_47 : decode cX10_lays 47 = .ok (.iastore, 1) := by decide +kernel
theorem dX10_lays_48 : decode cX10_lays 48 = .ok (.aload_n 0, 1) := by decide +kernel
theorem dX10_lays_49 : decode cX10_lays 49 = .ok (.getfield 7, 3) := by decide +kernel
theorem dX10_lays_52 : decode cX10_lays 52 = .ok (.iload 7, 2) := by decide +kernel
theorem dX10_lays_54 : decode cX10_lays 54 = .ok (.iconst 4, 1) := by decide +kernel
theorem dX10_lays_55 : decode cX10_lays 55 = .ok (.iadd, 1) := by decide +kernel
theorem dX10_lays_56 : decode cX10_lays 56 = .ok (.iload 5, 2) := by decide +kernel
theorem dX10_lays_58 : decode cX10_lays 58 = .ok (.iastore, 1) := by decide +kernel
theorem dX10_lays_59 : decode cX10_lays 59 = .ok (.aload_n 0, 1) := by decide +kernel
theorem dX10_lays_60 : decode cX10_lays 60 = .ok (.getfield 7, 3) := by decide +kernel
theorem dX10_lays_63 : decode cX10_lays 63 = .ok (.iload 7, 2) := by decide +kernel
theorem dX10_lays_65 : decode cX10_lays 65 = .ok (.iconst 5, 1) := by decide +kernel
theorem dX10_lays_66 : decode cX10_lays 66 = .ok (.iadd, 1) := by decide +kernel
theorem dX10_lays_67 : decode cX10_lays 67 = .ok (.iload 6, 2) := by decide +kernel
theorem dX10_lays_69 : decode cX10_lays 69 = .ok (.iastore, 1) := by decide +kernel
theorem dX10_lays_70 : decode cX10_lays 70 = .ok (.aload_n 0, 1) := by decide +kernel
theorem dX10_lays_71 : decode cX10_lays 71 = .ok (.dup, 1) := by decide +kernel
theorem dX10_lays_72 : decode cX10_lays 72 = .ok (.getfield 86, 3) := by decide +kernel
theorem dX10_lays_75 : decode cX10_lays 75 = .ok (.iconst 1, 1) := by decide +kernel
theorem dX10_lays_76 : decode cX10_lays 76 = .ok (.iadd, 1) := by decide +kernel
theorem dX10_lays_77 : decode cX10_lays 77 = .ok (.putfield 86, 3) := by decide +kernel
theorem dX10_lays_80 : decode cX10_lays 80 = .ok (.return_, 1) := by decide +kernel
theorem dX10_unit_0 : decode cX10_unit 0 = .ok (.iload_n 1, 1) := by decide +kernel
theorem dX10_unit_1 : decode cX10_unit 1 = .ok (.invokestatic 95, 3) := by decide +kernel
theorem dX10_unit_4 : decode cX10_unit 4 = .ok (.ifCond .eq 66, 3) := by decide +kernel
theorem dX10_unit_7 : decode cX10_unit 7 = .ok (.iload_n 2, 1) := by decide +kernel
theorem dX10_unit_8 : decode cX10_unit 8 = .ok (.i2l, 1) := by decide +kernel
theorem dX10_unit_9 : decode cX10_unit 9 = .ok (.lconst 0, 1) := by decide +kernel
theorem dX10_unit_10 : decode cX10_unit 10 = .ok (.ldc2_w 99, 3) := by decide +kernel
theorem dX10_unit_13 : decode cX10_unit 13 = .ok (.invokestatic 89, 3) := by decide +kernel
theorem dX10_unit_16 : decode cX10_unit 16 = .ok (.ifCond .eq 54, 3) := by decide +kernel
theorem dX10_unit_19 : decode cX10_unit 19 = .ok (.iload_n 3, 1) := by decide +kernel
theorem dX10_unit_20 : decode cX10_unit 20 = .ok (.i2l, 1) := by decide +kernel
theorem dX10_unit_21 : decode cX10_unit 21 = .ok (.lconst 0, 1) := by decide +kernel
theorem dX10_unit_22 : decode cX10_unit 22 = .ok (.ldc2_w 99, 3) := by decide +kernel
theorem dX10_unit_25 : decode cX10_unit 25 = .ok (.invokestatic 89, 3) := by decide +kernel
theorem dX10_unit_28 : decode cX10_unit 28 = .ok (.ifCond .eq 42, 3) := by decide +kernel
theorem dX10_unit_31 : decode cX10_unit 31 = .ok (.iload 4, 2) := by decide +kernel
theorem dX10_unit_33 : decode cX10_unit 33 = .ok (.i2l, 1) := by decide +kernel
theorem dX10_unit_34 : decode cX10_unit 34 = .ok (.lconst 0, 1) := by decide +kernel
theorem dX10_unit_35 : decode cX10_unit 35 = .ok (.ldc2_w 101, 3) := by decide +kernel
theorem dX10_unit_38 : decode cX10_unit 38 = .ok (.invokestatic 89, 3) := by decide +kernel
theorem dX10_unit_41 : decode cX10_unit 41 = .ok (.ifCond .eq 29, 3) := by decide +kernel
theorem dX10_unit_44 : decode cX10_unit 44 = .ok (.iload 5, 2) := by decide +kernel
theorem dX10_unit_46 : decode cX10_unit 46 = .ok (.i2l, 1) := by decide +kernel
theorem dX10_unit_47 : decode cX10_unit 47 = .ok (.lconst 1, 1) := by decide +kernel
theorem dX10_unit_48 : decode cX10_unit 48 = .ok (.ldc2_w 101, 3) := by decide +kernel
theorem dX10_unit_51 : decode cX10_unit 51 = .ok (.invokestatic 89, 3) := by decide +kernel
theorem dX10_unit_54 : decode cX10_unit 54 = .ok (.ifCond .eq 16, 3) := by decide +kernel
theorem dX10_unit_57 : decode cX10_unit 57 = .ok (.iload 6, 2) := by decide +kernel
theorem dX10_unit_59 : decode cX10_unit 59 = .ok (.i2l, 1) := by decide +kernel
theorem dX10_unit_60 : decode cX10_unit 60 = .ok (.lconst 0, 1) := by decide +kernel
theorem dX10_unit_61 : decode cX10_unit 61 = .ok (.ldc2_w 103, 3) := by decide +kernel
theorem dX10_unit_64 : decode cX10_unit 64 = .ok (.invokestatic 89, 3) := by decide +kernel
theorem dX10_unit_67 : decode cX10_unit 67 = .ok (.ifCond .ne 10, 3) := by decide +kernel
theorem dX10_unit_70 : decode cX10_unit 70 = .ok (.aload_n 0, 1) := by decide +kernel
theorem dX10_unit_71 : decode cX10_unit 71 = .ok (.bipush (-2), 2) := by decide +kernel
theorem dX10_unit_73 : decode cX10_unit 73 = .ok (.invokevirtual 105, 3) := by decide +kernel
theorem dX10_unit_76 : decode cX10_unit 76 = .ok (.ireturn, 1) := by decide +kernel
theorem dX10_unit_77 : decode cX10_unit 77 = .ok (.aload_n 0, 1) := by decide +kernel
theorem dX10_unit_78 : decode cX10_unit 78 = .ok (.getfield 86, 3) := by decide +kernel
theorem dX10_unit_81 : decode cX10_unit 81 = .ok (.bipush 40, 2) := by decide +kernel
theorem dX10_unit_83 : decode cX10_unit 83 = .ok (.if_icmp .ne 8, 3) := by decide +kernel
theorem dX10_unit_86 : decode cX10_unit 86 = .ok (.aload_n 0, 1) := by decide +kernel
theorem dX10_unit_87 : decode cX10_unit 87 = .ok (.invokevirtual 109, 3) := by decide +kernel
theorem dX10_unit_90 : decode cX10_unit 90 = .ok (.ireturn, 1) := by decide +kernel
theorem dX10_unit_91 : decode cX10_unit 91 = .ok (.aload_n 0, 1) := by decide +kernel
theorem dX10_unit_92 : decode cX10_unit 92 = .ok (.iload_n 1, 1) := by decide +kernel
theorem dX10_unit_93 : decode cX10_unit 93 = .ok (.iload_n 2, 1) := by decide +kernel
theorem dX10_unit_94 : decode cX10_unit 94 = .ok (.iload_n 3, 1) := by decide +kernel
theorem dX10_unit_95 : decode cX10_unit 95 = .ok (.iload 4, 2) := by decide +kernel
theorem dX10_unit_97 : decode cX10_unit 97 = .ok (.iload 5, 2) := by decide +kernel
theorem dX10_unit_99 : decode cX10_unit 99 = .ok (.iload 6, 2) := by decide +kernel
theorem dX10_unit_101 : decode cX10_unit 101 = .ok (.invokevirtual 113, 3) := by decide +kernel
theorem dX10_unit_104 : decode cX10_unit 104 = .ok (.aload_n 0, 1) := by decide +kernel
theorem dX10_unit_105 : decode cX10_unit 105 = .ok (.getfield 86, 3) := by decide +kernel
theorem dX10_unit_108 : decode cX10_unit 108 = .ok (.iconst 1, 1) := by decide +kernel
theorem dX10_unit_109 : decode cX10_unit 109 = .ok (.isub, 1) := by decide +kernel
theorem dX10_unit_110 : decode cX10_unit 110 = .ok (.ireturn, 1) := by decide +kernel
theorem dX10_records_0 : decode cX10_records 0 = .ok (.iload_n 1, 1) := by decide +kernel
theorem dX10_records_1 : decode cX10_records 1 = .ok (.i2l, 1) := by decide +kernel
theorem dX10_records_2 : decode cX10_records 2 = .ok (.lconst 0, 1) := by decide +kernel
theorem dX10_records_3 : decode cX10_records 3 = .ok (.ldc2_w 117, 3) := by decide +kernel
theorem dX10_records_6 : decode cX10_records 6 = .ok (.invokestatic 89, 3) := by decide +kernel
theorem dX10_records_9 : decode cX10_records 9 = .ok (.ifCond .eq 27, 3) := by decide +kernel
theorem dX10_records_12 : decode cX10_records 12 = .ok (.iload_n 2, 1) := by decide +kernel
theorem dX10_records_13 : decode cX10_records 13 = .ok (.i2l, 1) := by decide +kernel
theorem dX10_records_14 : decode cX10_records 14 = .ok (.lconst 1, 1) := by decide +kernel
theorem dX10_records_15 : decode cX10_records 15 = .ok (.ldc2_w 101, 3) := by decide +kernel
theorem dX10_records_18 : decode cX10_records 18 = .ok (.invokestatic 89, 3) := by decide +kernel
theorem dX10_records_21 : decode cX10_records 21 = .ok (.ifCond .eq 15, 3) := by decide +kernel
theorem dX10_records_24 : decode cX10_records 24 = .ok (.iload_n 3, 1) := by decide +kernel
theorem dX10_records_25 : decode cX10_records 25 = .ok (.i2l, 1) := by decide +kernel
theorem dX10_records_26 : decode cX10_records 26 = .ok (.lconst 0, 1) := by decide +kernel
theorem dX10_records_27 : decode cX10_records 27 = .ok (.ldc2_w 103, 3) := by decide +kernel
theorem dX10_records_30 : decode cX10_records 30 = .ok (.invokestatic 89, 3) := by decide +kernel
theorem dX10_records_33 : decode cX10_records 33 = .ok (.ifCond .ne 10, 3) := by decide +kernel
theorem dX10_records_36 : decode cX10_records 36 = .ok (.aload_n 0, 1) := by decide +kernel
theorem dX10_records_37 : decode cX10_records 37 = .ok (.bipush (-2), 2) := by decide +kernel
theorem dX10_records_39 : decode cX10_records 39 = .ok (.invokevirtual 105, 3) := by decide +kernel
theorem dX10_records_42 : decode cX10_records 42 = .ok (.ireturn, 1) := by decide +kernel
theorem dX10_records_43 : decode cX10_records 43 = .ok (.aload_n 0, 1) := by decide +kernel
theorem dX10_records_44 : decode cX10_records 44 = .ok (.getfield 86, 3) := by decide +kernel
theorem dX10_records_47 : decode cX10_records 47 = .ok (.iload_n 2, 1) := by decide +kernel
theorem dX10_records_48 : decode cX10_records 48 = .ok (.iadd, 1) := by decide +kernel
theorem dX10_records_49 : decode cX10_records 49 = .ok (.bipush 40, 2) := by decide +kernel
theorem dX10_records_51 : decode cX10_records 51 = .ok (.if_icmp .le 8, 3) := by decide +kernel
theorem dX10_records_54 : decode cX10_records 54 = .ok (.aload_n 0, 1) := by decide +kernel
theorem dX10_records_55 : decode cX10_records 55 = .ok (.invokevirtual 109, 3) := by decide +kernel
theorem dX10_records_58 : decode cX10_records 58 = .ok (.ireturn, 1) := by decide +kernel
theorem dX10_records_59 : decode cX10_records 59 = .ok (.iload_n 1, 1) := by decide +kernel
theorem dX10_records_60 : decode cX10_records 60 = .ok (.i2l, 1) := by decide +kernel
theorem dX10_records_61 : decode cX10_records 61 = .ok (.lstore 4, 2) := by decide +kernel
theorem dX10_records_63 : decode cX10_records 63 = .ok (.aload_n 0, 1) := by decide +kernel
theorem dX10_records_64 : decode cX10_records 64 = .ok (.getfield 86, 3) := by decide +kernel
theorem dX10_records_67 : decode cX10_records 67 = .ok (.istore 6, 2) := by decide +kernel
theorem dX10_records_69 : decode cX10_records 69 = .ok (.iconst 0, 1) := by decide +kernel
theorem dX10_records_70 : decode cX10_records 70 = .ok (.istore 7, 2) := by decide +kernel
theorem dX10_records_72 : decode cX10_records 72 = .ok (.iload 7, 2) := by decide +kernel
theorem dX10_records_74 : decode cX10_records 74 = .ok (.iload_n 2, 1) := by decide +kernel
theorem dX10_records_75 : decode cX10_records 75 = .ok (.if_icmp .ge 92, 3) := by decide +kernel
theorem dX10_records_78 : decode cX10_records 78 = .ok (.lload 4, 2) := by decide +kernel
theorem dX10_records_80 : decode cX10_records 80 = .ok (.ldc2_w 119, 3) := by decide +kernel
theorem dX10_records_83 : decode cX10_records 83 = .ok (.lmul, 1) := by decide +kernel
theorem dX10_records_84 : decode cX10_records 84 = .ok (.ldc2_w 121, 3) := by decide +kernel
theorem dX10_records_87 : decode cX10_records 87 = .ok (.ladd, 1) := by decide +kernel
theorem dX10_records_88 : decode cX10_records 88 = .ok (.ldc2_w 123, 3) := by decide +kernel
theorem dX10_records_91 : decode cX10_records 91 = .ok (.lrem, 1) := by decide +kernel
theorem dX10_records_92 : decode cX10_records 92 = .ok (.lstore 4, 2) := by decide +kernel
theorem dX10_records_94 : decode cX10_records 94 = .ok (.iload 7, 2) := by decide +kernel
theorem dX10_records_96 : decode cX10_records 96 = .ok (.ifCond .ne 8, 3) := by decide +kernel
theorem dX10_records_99 : decode cX10_records 99 = .ok (.bipush 6, 2) := by decide +kernel
theorem dX10_records_101 : decode cX10_records 101 = .ok (.goto 14, 3) := by decide +kernel
theorem dX10_records_104 : decode cX10_records 104 = .ok (.aload_n 0, 1) := by decide +kernel
theorem dX10_records_105 : decode cX10_records 105 = .ok (.aload_n 0, 1) := by decide +kernel
theorem dX10_records_106 : decode cX10_records 106 = .ok (.getfield 86, 3) := by decide +kernel
theorem dX10_records_109 : decode cX10_records 109 = .ok (.iconst 1, 1) := by decide +kernel
theorem dX10_records_110 : decode cX10_records 110 = .ok (.isub, 1) := by decide +kernel
theorem dX10_records_111 : decode cX10_records 111 = .ok (.iconst 0, 1) := by decide +kernel
theorem dX10_records_112 : decode cX10_records 112 = .ok (.invokevirtual 125, 3) := by decide +kernel
theorem dX10_records_115 : decode cX10_records 115 = .ok (.istore 8, 2) := by decide +kernel
theorem dX10_records_117 : decode cX10_records 117 = .ok (.aload_n 0, 1) := by decide +kernel
theorem dX10_records_118 : decode cX10_records 118 = .ok (.lload 4, 2) := by decide +kernel
theorem dX10_records_120 : decode cX10_records 120 = .ok (.ldc2_w 129, 3) := by decide +kernel
theorem dX10_records_123 : decode cX10_records 123 = .ok (.ldiv, 1) := by decide +kernel
theorem dX10_records_124 : decode cX10_records 124 = .ok (.ldc2_w 99, 3) := by decide +kernel
theorem dX10_records_127 : decode cX10_records 127 = .ok (.lrem, 1) := by decide +kernel
theorem dX10_records_128 : decode cX10_records 128 = .ok (.l2i, 1) := by decide +kernel
theorem dX10_records_129 : decode cX10_records 129 = .ok (.iload 8, 2) := by decide +kernel
theorem dX10_records_131 : decode cX10_records 131 = .ok (.bipush 6, 2) := by decide +kernel
theorem dX10_records_133 : decode cX10_records 133 = .ok (.lload 4, 2) := by decide +kernel
theorem dX10_records_135 : decode cX10_records 135 = .ok (.ldc2_w 131, 3) := by decide +kernel
theorem dX10_records_138 : decode cX10_records 138 = .ok (.ldiv, 1) := by decide +kernel
theorem dX10_records_139 : decode cX10_records 139 = .ok (.ldc2_w 133, 3) := by decide +kernel
theorem dX10_records_142 : decode cX10_records 142 = .ok (.lrem, 1) := by decide +kernel
theorem dX10_records_143 : decode cX10_records 143 = .ok (.l2i, 1) := by decide +kernel
theorem dX10_records_144 : decode cX10_records 144 = .ok (.lload 4, 2) := by decide +kernel
theorem dX10_records_146 : decode cX10_records 146 = .ok (.ldc2_w 135, 3) := by decide +kernel
theorem dX10_records_149 : decode cX10_records 149 = .ok (.ldiv, 1) := by decide +kernel
theorem dX10_records_150 : decode cX10_records 150 = .ok (.ldc2_w 101, 3) := by decide +kernel
theorem dX10_records_153 : decode cX10_records 153 = .ok (.lrem, 1) := by decide +kernel
theorem dX10_records_154 : decode cX10_records 154 = .ok (.l2i, 1) := by decide +kernel
theorem dX10_records_155 : decode cX10_records 155 = .ok (.iconst 1, 1) := by decide +kernel
theorem dX10_records_156 : decode cX10_records 156 = .ok (.iadd, 1) := by decide +kernel
theorem dX10_records_157 : decode cX10_records 157 = .ok (.iload_n 3, 1) := by decide +kernel
theorem dX10_records_158 : decode cX10_records 158 = .ok (.invokevirtual 113, 3) := by decide +kernel
theorem dX10_records_161 : decode cX10_records 161 = .ok (.iinc 7 1, 3) := by decide +kernel
theorem dX10_records_164 : decode cX10_records 164 = .ok (.goto (-92), 3) := by decide +kernel
theorem dX10_records_167 : decode cX10_records 167 = .ok (.iload 6, 2) := by decide +kernel
theorem dX10_records_169 : decode cX10_records 169 = .ok (.istore 7, 2) := by decide +kernel
theorem dX10_records_171 : decode cX10_records 171 = .ok (.iload 7, 2) := by decide +kernel
theorem dX10_records_173 : decode cX10_records 173 = .ok (.iconst 1, 1) := by decide +kernel
theorem dX10_records_174 : decode cX10_records 174 = .ok (.iadd, 1) := by decide +kernel
theorem dX10_records_175 : decode cX10_records 175 = .ok (.aload_n 0, 1) := by decide +kernel
theorem dX10_records_176 : decode cX10_records 176 = .ok (.getfield 86, 3) := by decide +kernel
theorem dX10_records_179 : decode cX10_records 179 = .ok (.if_icmp .ge 30, 3) := by decide +kernel
theorem dX10_records_182 : decode cX10_records 182 = .ok (.aload_n 0, 1) := by decide +kernel
theorem dX10_records_183 : decode cX10_records 183 = .ok (.getfield 7, 3) := by decide +kernel
theorem dX10_records_186 : decode cX10_records 186 = .ok (.bipush 6, 2) := by decide +kernel
theorem dX10_records_188 : decode cX10_records 188 = .ok (.iload 7, 2) := by decide +kernel
theorem dX10_records_190 : decode cX10_records 190 = .ok (.imul, 1) := by decide +kernel
theorem dX10_records_191 : decode cX10_records 191 = .ok (.iconst 2, 1) := by decide +kernel
theorem dX10_records_192 : decode cX10_records 192 = .ok (.iadd, 1) := by decide +kernel
theorem dX10_records_193 : decode cX10_records 193 = .ok (.aload_n 0, 1) := by decide +kernel
theorem dX10_records_194 : decode cX10_records 194 = .ok (.iload 7, 2) := by decide +kernel
theorem dX10_records_196 : decode cX10_records 196 = .ok (.iconst 1, 1) := by decide +kernel
theorem dX10_records_197 : decode cX10_records 197 = .ok (.iadd, 1) := by decide +kernel
theorem dX10_records_198 : decode cX10_records 198 = .ok (.iconst 0, 1) := by decide +kernel
theorem dX10_records_199 : decode cX10_records 199 = .ok (.invokevirtual 125, 3) := by decide +kernel
theorem dX10_records_202 : decode cX10_records 202 = .ok (.iastore, 1) := by decide +kernel
theorem dX10_records_203 : decode cX10_records 203 = .ok (.iinc 7 1, 3) := by decide +kernel
theorem dX10_records_206 : decode cX10_records 206 = .ok (.goto (-35), 3) := by decide +kernel
theorem dX10_records_209 : decode cX10_records 209 = .ok (.aload_n 0, 1) := by decide +kernel
theorem dX10_records_210 : decode cX10_records 210 = .ok (.getfield 86, 3) := by decide +kernel
theorem dX10_records_213 : decode cX10_records 213 = .ok (.ireturn, 1) := by decide +kernel
theorem dX10_nextOf_0 : decode cX10_nextOf 0 = .ok (.iload_n 1, 1) := by decide +kernel
theorem dX10_nextOf_1 : decode cX10_nextOf 1 = .ok (.iconst 1, 1) := by decide +kernel
theorem dX10_nextOf_2 : decode cX10_nextOf 2 = .ok (.iadd, 1) := by decide +kernel
theorem dX10_nextOf_3 : decode cX10_nextOf 3 = .ok (.istore_n 2, 1) := by decide +kernel
theorem dX10_nextOf_4 : decode cX10_nextOf 4 = .ok (.iload_n 2, 1) := by decide +kernel
theorem dX10_nextOf_5 : decode cX10_nextOf 5 = .ok (.aload_n 0, 1) := by decide +kernel
theorem dX10_nextOf_6 : decode cX10_nextOf 6 = .ok (.getfield 86, 3) := by decide +kernel
theorem dX10_nextOf_9 : decode cX10_nextOf 9 = .ok (.if_icmp .ge 26, 3) := by decide +kernel
theorem dX10_nextOf_12 : decode cX10_nextOf 12 = .ok (.aload_n 0, 1) := by decide +kernel
theorem dX10_nextOf_13 : decode cX10_nextOf 13 = .ok (.iload_n 2, 1) := by decide +kernel
theorem dX10_nextOf_14 : decode cX10_nextOf 14 = .ok (.iconst 5, 1) := by decide +kernel
theorem dX10_nextOf_15 : decode cX10_nextOf 15 = .ok (.invokevirtual 125, 3) := by decide +kernel
theorem dX10_nextOf_18 : decode cX10_nextOf 18 = .ok (.aload_n 0, 1) := by decide +kernel
theorem dX10_nextOf_19 : decode cX10_nextOf 19 = .ok (.iload_n 1, 1) := by decide +kernel
theorem dX10_nextOf_20 : decode cX10_nextOf 20 = .ok (.iconst 5, 1) := by decide +kernel
theorem dX10_nextOf_21 : decode cX10_nextOf 21 = .ok (.invokevirtual 125, 3) := by decide +kernel
theorem dX10_nextOf_24 : decode cX10_nextOf 24 = .ok (.if_icmp .ne 5, 3) := by decide +kernel
theorem dX10_nextOf_27 : decode cX10_nextOf 27 = .ok (.iload_n 2, 1) := by decide +kernel
theorem dX10_nextOf_28 : decode cX10_nextOf 28 = .ok (.ireturn, 1) := by decide +kernel
theorem dX10_nextOf_29 : decode cX10_nextOf 29 = .ok (.iinc 2 1, 3) := by decide +kernel
theorem dX10_nextOf_32 : decode cX10_nextOf 32 = .ok (.goto (-28), 3) := by decide +kernel
theorem dX10_nextOf_35 : decode cX10_nextOf 35 = .ok (.iconst (-1), 1) := by decide +kernel
theorem dX10_nextOf_36 : decode cX10_nextOf 36 = .ok (.ireturn, 1) := by decide +kernel
theorem dX10_of_0 : decode cX10_of 0 = .ok (.aload_n 0, 1) := by decide +kernel
theorem dX10_of_1 : decode cX10_of 1 = .ok (.iload_n 1, 1) := by decide +kernel
theorem dX10_of_2 : decode cX10_of 2 = .ok (.invokevirtual 137, 3) := by decide +kernel
theorem dX10_of_5 : decode cX10_of 5 = .ok (.ifCond .eq 15, 3) := by decide +kernel
theorem dX10_of_8 : decode cX10_of 8 = .ok (.iload_n 2, 1) := by decide +kernel
theorem dX10_of_9 : decode cX10_of 9 = .ok (.i2l, 1) := by decide +kernel
theorem dX10_of_10 : decode cX10_of 10 = .ok (.lconst 0, 1) := by decide +kernel
theorem dX10_of_11 : decode cX10_of 11 = .ok (.ldc2_w 99, 3) := by decide +kernel
theorem dX10_of_14 : decode cX10_of 14 = .ok (.invokestatic 89, 3) := by decide +kernel
theorem dX10_of_17 : decode cX10_of 17 = .ok (.ifCond .ne 10, 3) := by decide +kernel
theorem dX10_of_20 : decode cX10_of 20 = .ok (.aload_n 0, 1) := by decide +kernel
theorem dX10_of_21 : decode cX10_of 21 = .ok (.bipush (-2), 2) := by decide +kernel
theorem dX10_of_23 : decode cX10_of 23 = .ok (.invokevirtual 105, 3) := by decide +kernel
theorem dX10_of_26 : decode cX10_of 26 = .ok (.ireturn, 1) := by decide +kernel
theorem dX10_of_27 : decode cX10_of 27 = .ok (.iload_n 2, 1) := by decide +kernel
theorem dX10_of_28 : decode cX10_of 28 = .ok (.bipush 6, 2) := by decide +kernel
theorem dX10_of_30 : decode cX10_of 30 = .ok (.if_icmp .ne 11, 3) := by decide +kernel
theorem dX10_of_33 : decode cX10_of 33 = .ok (.aload_n 0, 1) := by decide +kernel
theorem dX10_of_34 : decode cX10_of 34 = .ok (.iload_n 1, 1) := by decide +kernel
theorem dX10_of_35 : decode cX10_of 35 = .ok (.invokevirtual 140, 3) := by decide +kernel
theorem dX10_of_38 : decode cX10_of 38 = .ok (.goto 9, 3) := by decide +kernel
theorem dX10_of_41 : decode cX10_of 41 = .ok (.aload_n 0, 1) := by decide +kernel
theorem dX10_of_42 : decode cX10_of 42 = .ok (.iload_n 1, 1) := by decide +kernel
theorem dX10_of_43 : decode cX10_of 43 = .ok (.iload_n 2, 1) := by decide +kernel
theorem dX10_of_44 : decode cX10_of 44 = .ok (.invokevirtual 125, 3) := by decide +kernel
theorem dX10_of_47 : decode cX10_of 47 = .ok (.ireturn, 1) := by decide +kernel
theorem dX10_empties_0 : decode cX10_empties 0 = .ok (.aload_n 0, 1) := by decide +kernel
theorem dX10_empties_1 : decode cX10_empties 1 = .ok (.getfield 86, 3) := by decide +kernel
theorem dX10_empties_4 : decode cX10_empties 4 = .ok (.istore_n 1, 1) := by decide +kernel
theorem dX10_empties_5 : decode cX10_empties 5 = .ok (.aload_n 0, 1) := by decide +kernel
theorem dX10_empties_6 : decode cX10_empties 6 = .ok (.iconst 0, 1) := by decide +kernel
theorem dX10_empties_7 : decode cX10_empties 7 = .ok (.putfield 86, 3) := by decide +kernel
theorem dX10_empties_10 : decode cX10_empties 10 = .ok (.iload_n 1, 1) := by decide +kernel
theorem dX10_empties_11 : decode cX10_empties 11 = .ok (.ireturn, 1) := by decide +kernel
theorem dX10_other_0 : decode cX10_other 0 = .ok (.iload_n 1, 1) := by decide +kernel
theorem dX10_other_1 : decode cX10_other 1 = .ok (.invokestatic 95, 3) := by decide +kernel
theorem dX10_other_4 : decode cX10_other 4 = .ok (.ifCond .eq 10, 3) := by decide +kernel
theorem dX10_other_7 : decode cX10_other 7 = .ok (.iload_n 2, 1) := by decide +kernel
theorem dX10_other_8 : decode cX10_other 8 = .ok (.invokestatic 95, 3) := by decide +kernel
theorem dX10_other_11 : decode cX10_other 11 = .ok (.ifCond .ne 10, 3) := by decide +kernel
theorem dX10_other_14 : decode cX10_other 14 = .ok (.aload_n 0, 1) := by decide +kernel
theorem dX10_other_15 : decode cX10_other 15 = .ok (.bipush (-2), 2) := by decide +kernel
theorem dX10_other_17 : decode cX10_other 17 = .ok (.invokevirtual 105, 3) := by decide +kernel
theorem dX10_other_20 : decode cX10_other 20 = .ok (.ireturn, 1) := by decide +kernel
theorem dX10_other_21 : decode cX10_other 21 = .ok (.aload_n 0, 1) := by decide +kernel
theorem dX10_other_22 : decode cX10_other 22 = .ok (.getfield 16, 3) := by decide +kernel
theorem dX10_other_25 : decode cX10_other 25 = .ok (.iload_n 1, 1) := by decide +kernel
theorem dX10_other_26 : decode cX10_other 26 = .ok (.iaload, 1) := by decide +kernel
theorem dX10_other_27 : decode cX10_other 27 = .ok (.istore_n 3, 1) := by decide +kernel
theorem dX10_other_28 : decode cX10_other 28 = .ok (.aload_n 0, 1) := by decide +kernel
theorem dX10_other_29 : decode cX10_other 29 = .ok (.getfield 16, 3) := by decide +kernel
theorem dX10_other_32 : decode cX10_other 32 = .ok (.iload_n 1, 1) := by decide +kernel
theorem dX10_other_33 : decode cX10_other 33 = .ok (.iload_n 2, 1) := by decide +kernel
theorem dX10_other_34 : decode cX10_other 34 = .ok (.iastore, 1) := by decide +kernel
theorem dX10_other_35 : decode cX10_other 35 = .ok (.iload_n 3, 1) := by decide +kernel
theorem dX10_other_36 : decode cX10_other 36 = .ok (.ireturn, 1) := by decide +kernel
theorem dX10_fitter_0 : decode cX10_fitter 0 = .ok (.iload_n 1, 1) := by decide +kernel
theorem dX10_fitter_1 : decode cX10_fitter 1 = .ok (.i2l, 1) := by decide +kernel
theorem dX10_fitter_2 : decode cX10_fitter 2 = .ok (.lconst 0, 1) := by decide +kernel
theorem dX10_fitter_3 : decode cX10_fitter 3 = .ok (.ldc2_w 143, 3) := by decide +kernel
theorem dX10_fitter_6 : decode cX10_fitter 6 = .ok (.invokestatic 89, 3) := by decide +kernel
theorem dX10_fitter_9 : decode cX10_fitter 9 = .ok (.ifCond .ne 10, 3) := by decide +kernel
theorem dX10_fitter_12 : decode cX10_fitter 12 = .ok (.aload_n 0, 1) := by decide +kernel
theorem dX10_fitter_13 : decode cX10_fitter 13 = .ok (.bipush (-2), 2) := by decide +kernel
theorem dX10_fitter_15 : decode cX10_fitter 15 = .ok (.invokevirtual 105, 3) := by decide +kernel
theorem dX10_fitter_18 : decode cX10_fitter 18 = .ok (.ireturn, 1) := by decide +kernel
theorem dX10_fitter_19 : decode cX10_fitter 19 = .ok (.aload_n 0, 1) := by decide +kernel
theorem dX10_fitter_20 : decode cX10_fitter 20 = .ok (.getfield 145, 3) := by decide +kernel
theorem dX10_fitter_23 : decode cX10_fitter 23 = .ok (.istore_n 2, 1) := by decide +kernel
theorem dX10_fitter_24 : decode cX10_fitter 24 = .ok (.aload_n 0, 1) := by decide +kernel
theorem dX10_fitter_25 : decode cX10_fitter 25 = .ok (.iload_n 1, 1) := by decide +kernel
theorem dX10_fitter_26 : decode cX10_fitter 26 = .ok (.putfield 145, 3) := by decide +kernel
theorem dX10_fitter_29 : decode cX10_fitter 29 = .ok (.iload_n 2, 1) := by decide +kernel
theorem dX10_fitter_30 : decode cX10_fitter 30 = .ok (.ireturn, 1) := by decide +kernel
theorem dX10_type_0 : decode cX10_type 0 = .ok (.iload_n 1, 1) := by decide +kernel
theorem dX10_type_1 : decode cX10_type 1 = .ok (.i2l, 1) := by decide +kernel
theorem dX10_type_2 : decode cX10_type 2 = .ok (.lconst 0, 1) := by decide +kernel
theorem dX10_type_3 : decode cX10_type 3 = .ok (.ldc2_w 148, 3) := by decide +kernel
theorem dX10_type_6 : decode cX10_type 6 = .ok (.invokestatic 89, 3) := by decide +kernel
theorem dX10_type_9 : decode cX10_type 9 = .ok (.ifCond .ne 10, 3) := by decide +kernel
theorem dX10_type_12 : decode cX10_type 12 = .ok (.aload_n 0, 1) := by decide +kernel
theorem dX10_type_13 : decode cX10_type 13 = .ok (.bipush (-2), 2) := by decide +kernel
theorem dX10_type_15 : decode cX10_type 15 = .ok (.invokevirtual 105, 3) := by decide +kernel
theorem dX10_type_18 : decode cX10_type 18 = .ok (.ireturn, 1) := by decide +kernel
theorem dX10_type_19 : decode cX10_type 19 = .ok (.aload_n 0, 1) := by decide +kernel
theorem dX10_type_20 : decode cX10_type 20 = .ok (.getfield 150, 3) := by decide +kernel
theorem dX10_type_23 : decode cX10_type 23 = .ok (.bipush 120, 2) := by decide +kernel
theorem dX10_type_25 : decode cX10_type 25 = .ok (.if_icmp .ne 8, 3) := by decide +kernel
theorem dX10_type_28 : decode cX10_type 28 = .ok (.aload_n 0, 1) := by decide +kernel
theorem dX10_type_29 : decode cX10_type 29 = .ok (.invokevirtual 109, 3) := by decide +kernel
theorem dX10_type_32 : decode cX10_type 32 = .ok (.ireturn, 1) := by decide +kernel
theorem dX10_type_33 : decode cX10_type 33 = .ok (.aload_n 0, 1) := by decide +kernel
theorem dX10_type_34 : decode cX10_type 34 = .ok (.getfield 38, 3) := by decide +kernel
theorem dX10_type_37 : decode cX10_type 37 = .ok (.aload_n 0, 1) := by decide +kernel
theorem dX10_type_38 : decode cX10_type 38 = .ok (.getfield 150, 3) := by decide +kernel
theorem dX10_type_41 : decode cX10_type 41 = .ok (.iload_n 1, 1) := by decide +kernel
theorem dX10_type_42 : decode cX10_type 42 = .ok (.iastore, 1) := by decide +kernel
theorem dX10_type_43 : decode cX10_type 43 = .ok (.aload_n 0, 1) := by decide +kernel
theorem dX10_type_44 : decode cX10_type 44 = .ok (.dup, 1) := by decide +kernel
theorem dX10_type_45 : decode cX10_type 45 = .ok (.getfield 150, 3) := by decide +kernel
theorem dX10_type_48 : decode cX10_type 48 = .ok (.iconst 1, 1) := by decide +kernel
theorem dX10_type_49 : decode cX10_type 49 = .ok (.iadd, 1) := by decide +kernel
theorem dX10_type_50 : decode cX10_type 50 = .ok (.putfield 150, 3) := by decide +kernel
theorem dX10_type_53 : decode cX10_type 53 = .ok (.aload_n 0, 1) := by decide +kernel
theorem dX10_type_54 : decode cX10_type 54 = .ok (.getfield 150, 3) := by decide +kernel
theorem dX10_type_57 : decode cX10_type 57 = .ok (.ireturn, 1) := by decide +kernel
theorem dX10_clear_0 : decode cX10_clear 0 = .ok (.aload_n 0, 1) := by decide +kernel
theorem dX10_clear_1 : decode cX10_clear 1 = .ok (.getfield 150, 3) := by decide +kernel
theorem dX10_clear_4 : decode cX10_clear 4 = .ok (.istore_n 1, 1) := by decide +kernel
theorem dX10_clear_5 : decode cX10_clear 5 = .ok (.aload_n 0, 1) := by decide +kernel
theorem dX10_clear_6 : decode cX10_clear 6 = .ok (.iconst 0, 1) := by decide +kernel
theorem dX10_clear_7 : decode cX10_clear 7 = .ok (.putfield 150, 3) := by decide +kernel
theorem dX10_clear_10 : decode cX10_clear 10 = .ok (.iload_n 1, 1) := by decide +kernel
theorem dX10_clear_11 : decode cX10_clear 11 = .ok (.ireturn, 1) := by decide +kernel
theorem dX10_here_0 : decode cX10_here 0 = .ok (.aload_n 0, 1) := by decide +kernel
theorem dX10_here_1 : decode cX10_here 1 = .ok (.getfield 153, 3) := by decide +kernel
theorem dX10_here_4 : decode cX10_here 4 = .ok (.aload_n 0, 1) := by decide +kernel
theorem dX10_here_5 : decode cX10_here 5 = .ok (.getfield 150, 3) := by decide +kernel
theorem dX10_here_8 : decode cX10_here 8 = .ok (.if_icmp .ge 30, 3) := by decide +kernel
theorem dX10_here_11 : decode cX10_here 11 = .ok (.aload_n 0, 1) := by decide +kernel
theorem dX10_here_12 : decode cX10_here 12 = .ok (.getfield 38, 3) := by decide +kernel
theorem dX10_here_15 : decode cX10_here 15 = .ok (.aload_n 0, 1) := by decide +kernel
theorem dX10_here_16 : decode cX10_here 16 = .ok (.getfield 153, 3) := by decide +kernel
theorem dX10_here_19 : decode cX10_here 19 = .ok (.iaload, 1) := by decide +kernel
theorem dX10_here_20 : decode cX10_here 20 = .ok (.bipush 32, 2) := by decide +kernel
theorem dX10_here_22 : decode cX10_here 22 = .ok (.if_icmp .ne 16, 3) := by decide +kernel
theorem dX10_here_25 : decode cX10_here 25 = .ok (.aload_n 0, 1) := by decide +kernel
theorem dX10_here_26 : decode cX10_here 26 = .ok (.dup, 1) := by decide +kernel
theorem dX10_here_27 : decode cX10_here 27 = .ok (.getfield 153, 3) := by decide +kernel
theorem dX10_here_30 : decode cX10_here 30 = .ok (.iconst 1, 1) := by decide +kernel
theorem dX10_here_31 : decode cX10_here 31 = .ok (.iadd, 1) := by decide +kernel
theorem dX10_here_32 : decode cX10_here 32 = .ok (.putfield 153, 3) := by decide +kernel
theorem dX10_here_35 : decode cX10_here 35 = .ok (.goto (-35), 3) := by decide +kernel
theorem dX10_here_38 : decode cX10_here 38 = .ok (.aload_n 0, 1) := by decide +kernel
theorem dX10_here_39 : decode cX10_here 39 = .ok (.getfield 153, 3) := by decide +kernel
theorem dX10_here_42 : decode cX10_here 42 = .ok (.aload_n 0, 1) := by decide +kernel
theorem dX10_here_43 : decode cX10_here 43 = .ok (.getfield 150, 3) := by decide +kernel
theorem dX10_here_46 : decode cX10_here 46 = .ok (.if_icmp .ge 15, 3) := by decide +kernel
theorem dX10_here_49 : decode cX10_here 49 = .ok (.aload_n 0, 1) := by decide +kernel
theorem dX10_here_50 : decode cX10_here 50 = .ok (.getfield 38, 3) := by decide +kernel
theorem dX10_here_53 : decode cX10_here 53 = .ok (.aload_n 0, 1) := by decide +kernel
theorem dX10_here_54 : decode cX10_here 54 = .ok (.getfield 153, 3) := by decide +kernel
theorem dX10_here_57 : decode cX10_here 57 = .ok (.iaload, 1) := by decide +kernel
theorem dX10_here_58 : decode cX10_here 58 = .ok (.goto 4, 3) := by decide +kernel
theorem dX10_here_61 : decode cX10_here 61 = .ok (.iconst 0, 1) := by decide +kernel
theorem dX10_here_62 : decode cX10_here 62 = .ok (.ireturn, 1) := by decide +kernel
theorem dX10_takes_0 : decode cX10_takes 0 = .ok (.aload_n 0, 1) := by decide +kernel
theorem dX10_takes_1 : decode cX10_takes 1 = .ok (.invokevirtual 156, 3) := by decide +kernel
theorem dX10_takes_4 : decode cX10_takes 4 = .ok (.istore_n 3, 1) := by decide +kernel
theorem dX10_takes_5 : decode cX10_takes 5 = .ok (.iload_n 3, 1) := by decide +kernel
theorem dX10_takes_6 : decode cX10_takes 6 = .ok (.i2l, 1) := by decide +kernel
theorem dX10_takes_7 : decode cX10_takes 7 = .ok (.iload_n 1, 1) := by decide +kernel
theorem dX10_takes_8 : decode cX10_takes 8 = .ok (.i2l, 1) := by decide +kernel
theorem dX10_takes_9 : decode cX10_takes 9 = .ok (.iload_n 2, 1) := by decide +kernel
theorem dX10_takes_10 : decode cX10_takes 10 = .ok (.i2l, 1) := by decide +kernel
theorem dX10_takes_11 : decode cX10_takes 11 = .ok (.invokestatic 89, 3) := by decide +kernel
theorem dX10_takes_14 : decode cX10_takes 14 = .ok (.ifCond .ne 5, 3) := by decide +kernel
theorem dX10_takes_17 : decode cX10_takes 17 = .ok (.iconst (-1), 1) := by decide +kernel
theorem dX10_takes_18 : decode cX10_takes 18 = .ok (.ireturn, 1) := by decide +kernel
theorem dX10_takes_19 : decode cX10_takes 19 = .ok (.aload_n 0, 1) := by decide +kernel
theorem dX10_takes_20 : decode cX10_takes 20 = .ok (.dup, 1) := by decide +kernel
theorem dX10_takes_21 : decode cX10_takes 21 = .ok (.getfield 153, 3) := by decide +kernel
theorem dX10_takes_24 : decode cX10_takes 24 = .ok (.iconst 1, 1) := by decide +kernel
theorem dX10_takes_25 : decode cX10_takes 25 = .ok (.iadd, 1) := by decide +kernel
theorem dX10_takes_26 : decode cX10_takes 26 = .ok (.putfield 153, 3) := by decide +kernel
theorem dX10_takes_29 : decode cX10_takes 29 = .ok (.iload_n 3, 1) := by decide +kernel
theorem dX10_takes_30 : decode cX10_takes 30 = .ok (.iload_n 1, 1) := by decide +kernel
theorem dX10_takes_31 : decode cX10_takes 31 = .ok (.isub, 1) := by decide +kernel
theorem dX10_takes_32 : decode cX10_takes 32 = .ok (.ireturn, 1) := by decide +kernel
theorem dX10_letterOf_0 : decode cX10_letterOf 0 = .ok (.iload_n 0, 1) := by decide +kernel
theorem dX10_letterOf_1 : decode cX10_letterOf 1 = .ok (.ifCond .ne 27, 3) := by decide +kernel
theorem dX10_letterOf_4 : decode cX10_letterOf 4 = .ok (.iload_n 1, 1) := by decide +kernel
theorem dX10_letterOf_5 : decode cX10_letterOf 5 = .ok (.ifCond .ne 8, 3) := by decide +kernel
theorem dX10_letterOf_8 : decode cX10_letterOf 8 = .ok (.bipush 114, 2) := by decide +kernel
theorem dX10_letterOf_10 : decode cX10_letterOf 10 = .ok (.goto 39, 3) := by decide +kernel
theorem dX10_letterOf_13 : decode cX10_letterOf 13 = .ok (.iload_n 1, 1) := by decide +kernel
theorem dX10_letterOf_14 : decode cX10_letterOf 14 = .ok (.iconst 1, 1) := by decide +kernel
theorem dX10_letterOf_15 : decode cX10_letterOf 15 = .ok (.if_icmp .ne 8, 3) := by decide +kernel
theorem dX10_letterOf_18 : decode cX10_letterOf 18 = .ok (.bipush 111, 2) := by decide +kernel
theorem dX10_letterOf_20 : decode cX10_letterOf 20 = .ok (.goto 29, 3) := by decide +kernel
theorem dX10_letterOf_23 : decode cX10_letterOf 23 = .ok (.bipush 119, 2) := by decide +kernel
theorem dX10_letterOf_25 : decode cX10_letterOf 25 = .ok (.goto 24, 3) := by decide +kernel
theorem dX10_letterOf_28 : decode cX10_letterOf 28 = .ok (.iload_n 1, 1) := by decide +kernel
theorem dX10_letterOf_29 : decode cX10_letterOf 29 = .ok (.ifCond .ne 8, 3) := by decide +kernel
theorem dX10_letterOf_32 : decode cX10_letterOf 32 = .ok (.bipush 116, 2) := by decide +kernel
theorem dX10_letterOf_34 : decode cX10_letterOf 34 = .ok (.goto 15, 3) := by decide +kernel
theorem dX10_letterOf_37 : decode cX10_letterOf 37 = .ok (.iload_n 1, 1) := by decide +kernel
theorem dX10_letterOf_38 : decode cX10_letterOf 38 = .ok (.iconst 1, 1) := by decide +kernel
theorem dX10_letterOf_39 : decode cX10_letterOf 39 = .ok (.if_icmp .ne 8, 3) := by decide +kernel
theorem dX10_letterOf_42 : decode cX10_letterOf 42 = .ok (.bipush 114, 2) := by decide +kernel
theorem dX10_letterOf_44 : decode cX10_letterOf 44 = .ok (.goto 5, 3) := by decide +kernel
theorem dX10_letterOf_47 : decode cX10_letterOf 47 = .ok (.bipush 101, 2) := by decide +kernel
theorem dX10_letterOf_49 : decode cX10_letterOf 49 = .ok (.ireturn, 1) := by decide +kernel
theorem dX10_takesWord_0 : decode cX10_takesWord 0 = .ok (.aload_n 0, 1) := by decide +kernel
theorem dX10_takesWord_1 : decode cX10_takesWord 1 = .ok (.invokevirtual 156, 3) := by decide +kernel
theorem dX10_takesWord_4 : decode cX10_takesWord 4 = .ok (.istore_n 1, 1) := by decide +kernel
theorem dX10_takesWord_5 : decode cX10_takesWord 5 = .ok (.aload_n 0, 1) := by decide +kernel
theorem dX10_takesWord_6 : decode cX10_takesWord 6 = .ok (.getfield 153, 3) := by decide +kernel
theorem dX10_takesWord_9 : decode cX10_takesWord 9 = .ok (.istore_n 2, 1) := by decide +kernel
theorem dX10_takesWord_10 : decode cX10_takesWord 10 = .ok (.iload_n 1, 1) := by decide +kernel
theorem dX10_takesWord_11 : decode cX10_takesWord 11 = .ok (.bipush 116, 2) := by decide +kernel
theorem dX10_takesWord_13 : decode cX10_takesWord 13 = .ok (.if_icmp .ne 7, 3) := by decide +kernel
theorem dX10_takesWord_16 : decode cX10_takesWord 16 = .ok (.iconst 1, 1) := by decide +kernel
theorem dX10_takesWord_17 : decode cX10_takesWord 17 = .ok (.goto 4, 3) := by decide +kernel
theorem dX10_takesWord_20 : decode cX10_takesWord 20 = .ok (.iconst 0, 1) := by decide +kernel
theorem dX10_takesWord_21 : decode cX10_takesWord 21 = .ok (.istore_n 3, 1) := by decide +kernel
theorem dX10_takesWord_22 : decode cX10_takesWord 22 = .ok (.iconst 0, 1) := by decide +kernel
theorem dX10_takesWord_23 : decode cX10_takesWord 23 = .ok (.istore 4, 2) := by decide +kernel
theorem dX10_takesWord_25 : decode cX10_takesWord 25 = .ok (.iload 4, 2) := by decide +kernel
theorem dX10_takesWord_27 : decode cX10_takesWord 27 = .ok (.iconst 3, 1) := by decide +kernel
theorem dX10_takesWord_28 : decode cX10_takesWord 28 = .ok (.iload_n 3, 1) := by decide +kernel
theorem dX10_takesWord_29 : decode cX10_takesWord 29 = .ok (.iadd, 1) := by decide +kernel
theorem dX10_takesWord_30 : decode cX10_takesWord 30 = .ok (.if_icmp .ge 55, 3) := by decide +kernel
theorem dX10_takesWord_33 : decode cX10_takesWord 33 = .ok (.iload_n 2, 1) := by decide +kernel
theorem dX10_takesWord_34 : decode cX10_takesWord 34 = .ok (.iload 4, 2) := by decide +kernel
theorem dX10_takesWord_36 : decode cX10_takesWord 36 = .ok (.iadd, 1) := by decide +kernel
theorem dX10_takesWord_37 : decode cX10_takesWord 37 = .ok (.aload_n 0, 1) := by decide +kernel
theorem dX10_takesWord_38 : decode cX10_takesWord 38 = .ok (.getfield 150, 3) := by decide +kernel
theorem dX10_takesWord_41 : decode cX10_takesWord 41 = .ok (.if_icmp .lt 13, 3) := by decide +kernel
theorem dX10_takesWord_44 : decode cX10_takesWord 44 = .ok (.aload_n 0, 1) := by decide +kernel
theorem dX10_takesWord_45 : decode cX10_takesWord 45 = .ok (.aload_n 0, 1) := by decide +kernel
theorem dX10_takesWord_46 : decode cX10_takesWord 46 = .ok (.getfield 150, 3) := by decide +kernel
theorem dX10_takesWord_49 : decode cX10_takesWord 49 = .ok (.putfield 153, 3) := by decide +kernel
theorem dX10_takesWord_52 : decode cX10_takesWord 52 = .ok (.iconst (-1), 1) := by decide +kernel
theorem dX10_takesWord_53 : decode cX10_takesWord 53 = .ok (.ireturn, 1) := by decide +kernel
theorem dX10_takesWord_54 : decode cX10_takesWord 54 = .ok (.aload_n 0, 1) := by decide +kernel
theorem dX10_takesWord_55 : decode cX10_takesWord 55 = .ok (.getfield 38, 3) := by decide +kernel
theorem dX10_takesWord_58 : decode cX10_takesWord 58 = .ok (.iload_n 2, 1) := by decide +kernel
theorem dX10_takesWord_59 : decode cX10_takesWord 59 = .ok (.iload 4, 2) := by decide +kernel
theorem dX10_takesWord_61 : decode cX10_takesWord 61 = .ok (.iadd, 1) := by decide +kernel
theorem dX10_takesWord_62 : decode cX10_takesWord 62 = .ok (.iaload, 1) := by decide +kernel
theorem dX10_takesWord_63 : decode cX10_takesWord 63 = .ok (.iload_n 3, 1) := by decide +kernel
theorem dX10_takesWord_64 : decode cX10_takesWord 64 = .ok (.iload 4, 2) := by decide +kernel
theorem dX10_takesWord_66 : decode cX10_takesWord 66 = .ok (.invokestatic 159, 3) := by decide +kernel
theorem dX10_takesWord_69 : decode cX10_takesWord 69 = .ok (.if_icmp .eq 10, 3) := by decide +kernel
theorem dX10_takesWord_72 : decode cX10_takesWord 72 = .ok (.aload_n 0, 1) := by decide +kernel
theorem dX10_takesWord_73 : decode cX10_takesWord 73 = .ok (.iload_n 2, 1) := by decide +kernel
theorem dX10_takesWord_74 : decode cX10_takesWord 74 = .ok (.putfield 153, 3) := by decide +kernel
theorem dX10_takesWord_77 : decode cX10_takesWord 77 = .ok (.iconst (-1), 1) := by decide +kernel
theorem dX10_takesWord_78 : decode cX10_takesWord 78 = .ok (.ireturn, 1) := by decide +kernel
theorem dX10_takesWord_79 : decode cX10_takesWord 79 = .ok (.iinc 4 1, 3) := by decide +kernel
theorem dX10_takesWord_82 : decode cX10_takesWord 82 = .ok (.goto (-57), 3) := by decide +kernel
theorem dX10_takesWord_85 : decode cX10_takesWord 85 = .ok (.aload_n 0, 1) := by decide +kernel
theorem dX10_takesWord_86 : decode cX10_takesWord 86 = .ok (.iload_n 2, 1) := by decide +kernel
theorem dX10_takesWord_87 : decode cX10_takesWord 87 = .ok (.iconst 3, 1) := by decide +kernel
theorem dX10_takesWord_88 : decode cX10_takesWord 88 = .ok (.iadd, 1) := by decide +kernel
theorem dX10_takesWord_89 : decode cX10_takesWord 89 = .ok (.iload_n 3, 1) := by decide +kernel
theorem dX10_takesWord_90 : decode cX10_takesWord 90 = .ok (.iadd, 1) := by decide +kernel
theorem dX10_takesWord_91 : decode cX10_takesWord 91 = .ok (.putfield 153, 3) := by decide +kernel
theorem dX10_takesWord_94 : decode cX10_takesWord 94 = .ok (.iload_n 3, 1) := by decide +kernel
theorem dX10_takesWord_95 : decode cX10_takesWord 95 = .ok (.ireturn, 1) := by decide +kernel
theorem dX10_readsRow_0 : decode cX10_readsRow 0 = .ok (.iconst 0, 1) := by decide +kernel
theorem dX10_readsRow_1 : decode cX10_readsRow 1 = .ok (.istore_n 1, 1) := by decide +kernel
theorem dX10_readsRow_2 : decode cX10_readsRow 2 = .ok (.iload_n 1, 1) := by decide +kernel
theorem dX10_readsRow_3 : decode cX10_readsRow 3 = .ok (.ifCond .eq 12, 3) := by decide +kernel
theorem dX10_readsRow_6 : decode cX10_readsRow 6 = .ok (.aload_n 0, 1) := by decide +kernel
theorem dX10_readsRow_7 : decode cX10_readsRow 7 = .ok (.invokevirtual 156, 3) := by decide +kernel
theorem dX10_readsRow_10 : decode cX10_readsRow 10 = .ok (.bipush 59, 2) := by decide +kernel
theorem dX10_readsRow_12 : decode cX10_readsRow 12 = .ok (.if_icmp .eq 102, 3) := by decide +kernel
theorem dX10_readsRow_15 : decode cX10_readsRow 15 = .ok (.iload_n 1, 1) := by decide +kernel
theorem dX10_readsRow_16 : decode cX10_readsRow 16 = .ok (.bipush 8, 2) := by decide +kernel
theorem dX10_readsRow_18 : decode cX10_readsRow 18 = .ok (.if_icmp .ne 5, 3) := by decide +kernel
theorem dX10_readsRow_21 : decode cX10_readsRow 21 = .ok (.iconst (-1), 1) := by decide +kernel
theorem dX10_readsRow_22 : decode cX10_readsRow 22 = .ok (.ireturn, 1) := by decide +kernel
theorem dX10_readsRow_23 : decode cX10_readsRow 23 = .ok (.aload_n 0, 1) := by decide +kernel
theorem dX10_readsRow_24 : decode cX10_readsRow 24 = .ok (.bipush 97, 2) := by decide +kernel
theorem dX10_readsRow_26 : decode cX10_readsRow 26 = .ok (.bipush 102, 2) := by decide +kernel
theorem dX10_readsRow_28 : decode cX10_readsRow 28 = .ok (.invokevirtual 162, 3) := by decide +kernel
theorem dX10_readsRow_31 : decode cX10_readsRow 31 = .ok (.istore_n 2, 1) := by decide +kernel
theorem dX10_readsRow_32 : decode cX10_readsRow 32 = .ok (.iload_n 2, 1) := by decide +kernel
theorem dX10_readsRow_33 : decode cX10_readsRow 33 = .ok (.ifCond .ge 7, 3) := by decide +kernel
theorem dX10_readsRow_36 : decode cX10_readsRow 36 = .ok (.iconst (-1), 1) := by decide +kernel
theorem dX10_readsRow_37 : decode cX10_readsRow 37 = .ok (.goto 11, 3) := by decide +kernel
theorem dX10_readsRow_40 : decode cX10_readsRow 40 = .ok (.aload_n 0, 1) := by decide +kernel
theorem dX10_readsRow_41 : decode cX10_readsRow 41 = .ok (.bipush 48, 2) := by decide +kernel
theorem dX10_readsRow_43 : decode cX10_readsRow 43 = .ok (.bipush 57, 2) := by decide +kernel
theorem dX10_readsRow_45 : decode cX10_readsRow 45 = .ok (.invokevirtual 162, 3) := by decide +kernel
theorem dX10_readsRow_48 : decode cX10_readsRow 48 = .ok (.istore_n 3, 1) := by decide +kernel
theorem dX10_readsRow_49 : decode cX10_readsRow 49 = .ok (.iload_n 3, 1) := by decide +kernel
theorem dX10_readsRow_50 : decode cX10_readsRow 50 = .ok (.ifCond .ge 7, 3) := by decide +kernel
theorem dX10_readsRow_53 : decode cX10_readsRow 53 = .ok (.iconst (-1), 1) := by decide +kernel
theorem dX10_readsRow_54 : decode cX10_readsRow 54 = .ok (.goto 11, 3) := by decide +kernel
theorem dX10_readsRow_57 : decode cX10_readsRow 57 = .ok (.aload_n 0, 1) := by decide +kernel
theorem dX10_readsRow_58 : decode cX10_readsRow 58 = .ok (.bipush 49, 2) := by decide +kernel
theorem dX10_readsRow_60 : decode cX10_readsRow 60 = .ok (.bipush 57, 2) := by decide +kernel
theorem dX10_readsRow_62 : decode cX10_readsRow 62 = .ok (.invokevirtual 162, 3) := by decide +kernel
theorem dX10_readsRow_65 : decode cX10_readsRow 65 = .ok (.istore 4, 2) := by decide +kernel
theorem dX10_readsRow_67 : decode cX10_readsRow 67 = .ok (.iload 4, 2) := by decide +kernel
theorem dX10_readsRow_69 : decode cX10_readsRow 69 = .ok (.ifCond .ge 5, 3) := by decide +kernel
theorem dX10_readsRow_72 : decode cX10_readsRow 72 = .ok (.iconst (-1), 1) := by decide +kernel
theorem dX10_readsRow_73 : decode cX10_readsRow 73 = .ok (.ireturn, 1) := by decide +kernel
theorem dX10_readsRow_74 : decode cX10_readsRow 74 = .ok (.aload_n 0, 1) := by decide +kernel
theorem dX10_readsRow_75 : decode cX10_readsRow 75 = .ok (.getfield 41, 3) := by decide +kernel
theorem dX10_readsRow_78 : decode cX10_readsRow 78 = .ok (.iconst 3, 1) := by decide +kernel
theorem dX10_readsRow_79 : decode cX10_readsRow 79 = .ok (.iload_n 1, 1) := by decide +kernel
theorem dX10_readsRow_80 : decode cX10_readsRow 80 = .ok (.imul, 1) := by decide +kernel
theorem dX10_readsRow_81 : decode cX10_readsRow 81 = .ok (.iload_n 2, 1) := by decide +kernel
theorem dX10_readsRow_82 : decode cX10_readsRow 82 = .ok (.iastore, 1) := by decide +kernel
theorem dX10_readsRow_83 : decode cX10_readsRow 83 = .ok (.aload_n 0, 1) := by decide +kernel
theorem dX10_readsRow_84 : decode cX10_readsRow 84 = .ok (.getfield 41, 3) := by decide +kernel
theorem dX10_readsRow_87 : decode cX10_readsRow 87 = .ok (.iconst 3, 1) := by decide +kernel
theorem dX10_readsRow_88 : decode cX10_readsRow 88 = .ok (.iload_n 1, 1) := by decide +kernel
theorem dX10_readsRow_89 : decode cX10_readsRow 89 = .ok (.imul, 1) := by decide +kernel
theorem dX10_readsRow_90 : decode cX10_readsRow 90 = .ok (.iconst 1, 1) := by decide +kernel
theorem dX10_readsRow_91 : decode cX10_readsRow 91 = .ok (.iadd, 1) := by decide +kernel
theorem dX10_readsRow_92 : decode cX10_readsRow 92 = .ok (.iload_n 3, 1) := by decide +kernel
theorem dX10_readsRow_93 : decode cX10_readsRow 93 = .ok (.iastore, 1) := by decide +kernel
theorem dX10_readsRow_94 : decode cX10_readsRow 94 = .ok (.aload_n 0, 1) := by decide +kernel
theorem dX10_readsRow_95 : decode cX10_readsRow 95 = .ok (.getfield 41, 3) := by decide +kernel
theorem dX10_readsRow_98 : decode cX10_readsRow 98 = .ok (.iconst 3, 1) := by decide +kernel
theorem dX10_readsRow_99 : decode cX10_readsRow 99 = .ok (.iload_n 1, 1) := by decide +kernel
theorem dX10_readsRow_100 : decode cX10_readsRow 100 = .ok (.imul, 1) := by decide +kernel
theorem dX10_readsRow_101 : decode cX10_readsRow 101 = .ok (.iconst 2, 1) := by decide +kernel
theorem dX10_readsRow_102 : decode cX10_readsRow 102 = .ok (.iadd, 1) := by decide +kernel
theorem dX10_readsRow_103 : decode cX10_readsRow 103 = .ok (.iload 4, 2) := by decide +kernel
theorem dX10_readsRow_105 : decode cX10_readsRow 105 = .ok (.iconst 1, 1) := by decide +kernel
theorem dX10_readsRow_106 : decode cX10_readsRow 106 = .ok (.iadd, 1) := by decide +kernel
theorem dX10_readsRow_107 : decode cX10_readsRow 107 = .ok (.iastore, 1) := by decide +kernel
theorem dX10_readsRow_108 : decode cX10_readsRow 108 = .ok (.iinc 1 1, 3) := by decide +kernel
theorem dX10_readsRow_111 : decode cX10_readsRow 111 = .ok (.goto (-109), 3) := by decide +kernel
theorem dX10_readsRow_114 : decode cX10_readsRow 114 = .ok (.iload_n 1, 1) := by decide +kernel
theorem dX10_readsRow_115 : decode cX10_readsRow 115 = .ok (.ireturn, 1) := by decide +kernel
theorem dX10_questionOf_0 : decode cX10_questionOf 0 = .ok (.iload_n 0, 1) := by decide +kernel
theorem dX10_questionOf_1 : decode cX10_questionOf 1 = .ok (.bipush 76, 2) := by decide +kernel
theorem dX10_questionOf_3 : decode cX10_questionOf 3 = .ok (.if_icmp .ne 7, 3) := by decide +kernel
theorem dX10_questionOf_6 : decode cX10_questionOf 6 = .ok (.iconst 1, 1) := by decide +kernel
theorem dX10_questionOf_7 : decode cX10_questionOf 7 = .ok (.goto 34, 3) := by decide +kernel
theorem dX10_questionOf_10 : decode cX10_questionOf 10 = .ok (.iload_n 0, 1) := by decide +kernel
theorem dX10_questionOf_11 : decode cX10_questionOf 11 = .ok (.bipush 82, 2) := by decide +kernel
theorem dX10_questionOf_13 : decode cX10_questionOf 13 = .ok (.if_icmp .ne 7, 3) := by decide +kernel
theorem dX10_questionOf_16 : decode cX10_questionOf 16 = .ok (.iconst 2, 1) := by decide +kernel
theorem dX10_questionOf_17 : decode cX10_questionOf 17 = .ok (.goto 24, 3) := by decide +kernel
theorem dX10_questionOf_20 : decode cX10_questionOf 20 = .ok (.iload_n 0, 1) := by decide +kernel
theorem dX10_questionOf_21 : decode cX10_questionOf 21 = .ok (.bipush 80, 2) := by decide +kernel
theorem dX10_questionOf_23 : decode cX10_questionOf 23 = .ok (.if_icmp .ne 7, 3) := by decide +kernel
theorem dX10_questionOf_26 : decode cX10_questionOf 26 = .ok (.iconst 3, 1) := by decide +kernel
theorem dX10_questionOf_27 : decode cX10_questionOf 27 = .ok (.goto 14, 3) := by decide +kernel
theorem dX10_questionOf_30 : decode cX10_questionOf 30 = .ok (.iload_n 0, 1) := by decide +kernel
theorem dX10_questionOf_31 : decode cX10_questionOf 31 = .ok (.bipush 68, 2) := by decide +kernel
theorem dX10_questionOf_33 : decode cX10_questionOf 33 = .ok (.if_icmp .ne 7, 3) := by decide +kernel
theorem dX10_questionOf_36 : decode cX10_questionOf 36 = .ok (.iconst 4, 1) := by decide +kernel
theorem dX10_questionOf_37 : decode cX10_questionOf 37 = .ok (.goto 4, 3) := by decide +kernel
theorem dX10_questionOf_40 : decode cX10_questionOf 40 = .ok (.iconst 0, 1) := by decide +kernel
theorem dX10_questionOf_41 : decode cX10_questionOf 41 = .ok (.ireturn, 1) := by decide +kernel
theorem dX10_hangs_0 : decode cX10_hangs 0 = .ok (.iload_n 2, 1) := by decide +kernel
theorem dX10_hangs_1 : decode cX10_hangs 1 = .ok (.ifCond .le 57, 3) := by decide +kernel
theorem dX10_hangs_4 : decode cX10_hangs 4 = .ok (.aload_n 0, 1) := by decide +kernel
theorem dX10_hangs_5 : decode cX10_hangs 5 = .ok (.getfield 59, 3) := by decide +kernel
theorem dX10_hangs_8 : decode cX10_hangs 8 = .ok (.iload_n 2, 1) := by decide +kernel
theorem dX10_hangs_9 : decode cX10_hangs 9 = .ok (.iconst 1, 1) := by decide +kernel
theorem dX10_hangs_10 : decode cX10_hangs 10 = .ok (.isub, 1) := by decide +kernel
theorem dX10_hangs_11 : decode cX10_hangs 11 = .ok (.iaload, 1) := by decide +kernel
theorem dX10_hangs_12 : decode cX10_hangs 12 = .ok (.ifCond .ne 20, 3) := by decide +kernel
theorem dX10_hangs_15 : decode cX10_hangs 15 = .ok (.aload_n 0, 1) := by decide +kernel
theorem dX10_hangs_16 : decode cX10_hangs 16 = .ok (.getfield 50, 3) := by decide +kernel
theorem dX10_hangs_19 : decode cX10_hangs 19 = .ok (.aload_n 0, 1) := by decide +kernel
theorem dX10_hangs_20 : decode cX10_hangs 20 = .ok (.getfield 56, 3) := by decide +kernel
theorem dX10_hangs_23 : decode cX10_hangs 23 = .ok (.iload_n 2, 1) := by decide +kernel
theorem dX10_hangs_24 : decode cX10_hangs 24 = .ok (.iconst 1, 1) := by decide +kernel
theorem dX10_hangs_25 : decode cX10_hangs 25 = .ok (.isub, 1) := by decide +kernel
theorem dX10_hangs_26 : decode cX10_hangs 26 = .ok (.iaload, 1) := by decide +kernel
theorem dX10_hangs_27 : decode cX10_hangs 27 = .ok (.iload_n 1, 1) := by decide +kernel
theorem dX10_hangs_28 : decode cX10_hangs 28 = .ok (.iastore, 1) := by decide +kernel
theorem dX10_hangs_29 : decode cX10_hangs 29 = .ok (.goto 17, 3) := by decide +kernel
theorem dX10_hangs_32 : decode cX10_hangs 32 = .ok (.aload_n 0, 1) := by decide +kernel
theorem dX10_hangs_33 : decode cX10_hangs 33 = .ok (.getfield 53, 3) := by decide +kernel
theorem dX10_hangs_36 : decode cX10_hangs 36 = .ok (.aload_n 0, 1) := by decide +kernel
theorem dX10_hangs_37 : decode cX10_hangs 37 = .ok (.getfield 56, 3) := by decide +kernel
theorem dX10_hangs_40 : decode cX10_hangs 40 = .ok (.iload_n 2, 1) := by decide +kernel
theorem dX10_hangs_41 : decode cX10_hangs 41 = .ok (.iconst 1, 1) := by decide +kernel
theorem dX10_hangs_42 : decode cX10_hangs 42 = .ok (.isub, 1) := by decide +kernel
theorem dX10_hangs_43 : decode cX10_hangs 43 = .ok (.iaload, 1) := by decide +kernel
theorem dX10_hangs_44 : decode cX10_hangs 44 = .ok (.iload_n 1, 1) := by decide +kernel
theorem dX10_hangs_45 : decode cX10_hangs 45 = .ok (.iastore, 1) := by decide +kernel
theorem dX10_hangs_46 : decode cX10_hangs 46 = .ok (.aload_n 0, 1) := by decide +kernel
theorem dX10_hangs_47 : decode cX10_hangs 47 = .ok (.getfield 59, 3) := by decide +kernel
theorem dX10_hangs_50 : decode cX10_hangs 50 = .ok (.iload_n 2, 1) := by decide +kernel
theorem dX10_hangs_51 : decode cX10_hangs 51 = .ok (.iconst 1, 1) := by decide +kernel
theorem dX10_hangs_52 : decode cX10_hangs 52 = .ok (.isub, 1) := by decide +kernel
theorem dX10_hangs_53 : decode cX10_hangs 53 = .ok (.dup2, 1) := by decide +kernel
theorem dX10_hangs_54 : decode cX10_hangs 54 = .ok (.iaload, 1) := by decide +kernel
theorem dX10_hangs_55 : decode cX10_hangs 55 = .ok (.iconst 1, 1) := by decide +kernel
theorem dX10_hangs_56 : decode cX10_hangs 56 = .ok (.iadd, 1) := by decide +kernel
theorem dX10_hangs_57 : decode cX10_hangs 57 = .ok (.iastore, 1) := by decide +kernel
theorem dX10_hangs_58 : decode cX10_hangs 58 = .ok (.return_, 1) := by decide +kernel
theorem dX10_readsTree_0 : decode cX10_readsTree 0 = .ok (.iconst 0, 1) := by decide +kernel
theorem dX10_readsTree_1 : decode cX10_readsTree 1 = .ok (.istore_n 1, 1) := by decide +kernel
theorem dX10_readsTree_2 : decode cX10_readsTree 2 = .ok (.iconst 0, 1) := by decide +kernel
theorem dX10_readsTree_3 : decode cX10_readsTree 3 = .ok (.istore_n 2, 1) := by decide +kernel
theorem dX10_readsTree_4 : decode cX10_readsTree 4 = .ok (.iconst 0, 1) := by decide +kernel
theorem dX10_readsTree_5 : decode cX10_readsTree 5 = .ok (.istore_n 3, 1) := by decide +kernel
theorem dX10_readsTree_6 : decode cX10_readsTree 6 = .ok (.aload_n 0, 1) := by decide +kernel
theorem dX10_readsTree_7 : decode cX10_readsTree 7 = .ok (.iconst 0, 1) := by decide +kernel
theorem dX10_readsTree_8 : decode cX10_readsTree 8 = .ok (.putfield 165, 3) := by decide +kernel
theorem dX10_readsTree_11 : decode cX10_readsTree 11 = .ok (.aload_n 0, 1) := by decide +kernel
theorem dX10_readsTree_12 : decode cX10_readsTree 12 = .ok (.iconst 0, 1) := by decide +kernel
theorem dX10_readsTree_13 : decode cX10_readsTree 13 = .ok (.putfield 168, 3) := by decide +kernel
theorem dX10_readsTree_16 : decode cX10_readsTree 16 = .ok (.iload_n 3, 1) := by decide +kernel
theorem dX10_readsTree_17 : decode cX10_readsTree 17 = .ok (.ifCond .ne 247, 3) := by decide +kernel
theorem dX10_readsTree_20 : decode cX10_readsTree 20 = .ok (.aload_n 0, 1) := by decide +kernel
theorem dX10_readsTree_21 : decode cX10_readsTree 21 = .ok (.invokevirtual 156, 3) := by decide +kernel
theorem dX10_readsTree_24 : decode cX10_readsTree 24 = .ok (.istore 4, 2) := by decide +kernel
theorem dX10_readsTree_26 : decode cX10_readsTree 26 = .ok (.iload 4, 2) := by decide +kernel
theorem dX10_readsTree_28 : decode cX10_readsTree 28 = .ok (.invokestatic 171, 3) := by decide +kernel
theorem dX10_readsTree_31 : decode cX10_readsTree 31 = .ok (.istore 5, 2) := by decide +kernel
theorem dX10_readsTree_33 : decode cX10_readsTree 33 = .ok (.iload_n 2, 1) := by decide +kernel
theorem dX10_readsTree_34 : decode cX10_readsTree 34 = .ok (.ifCond .le 34, 3) := by decide +kernel
theorem dX10_readsTree_37 : decode cX10_readsTree 37 = .ok (.aload_n 0, 1) := by decide +kernel
theorem dX10_readsTree_38 : decode cX10_readsTree 38 = .ok (.getfield 59, 3) := by decide +kernel
theorem dX10_readsTree_41 : decode cX10_readsTree 41 = .ok (.iload_n 2, 1) := by decide +kernel
theorem dX10_readsTree_42 : decode cX10_readsTree 42 = .ok (.iconst 1, 1) := by decide +kernel
theorem dX10_readsTree_43 : decode cX10_readsTree 43 = .ok (.isub, 1) := by decide +kernel
theorem dX10_readsTree_44 : decode cX10_readsTree 44 = .ok (.iaload, 1) := by decide +kernel
theorem dX10_readsTree_45 : decode cX10_readsTree 45 = .ok (.iconst 2, 1) := by decide +kernel
theorem dX10_readsTree_46 : decode cX10_readsTree 46 = .ok (.if_icmp .ne 22, 3) := by decide +kernel
theorem dX10_readsTree_49 : decode cX10_readsTree 49 = .ok (.aload_n 0, 1) := by decide +kernel
theorem dX10_readsTree_50 : decode cX10_readsTree 50 = .ok (.bipush 41, 2) := by decide +kernel
theorem dX10_readsTree_52 : decode cX10_readsTree 52 = .ok (.bipush 41, 2) := by decide +kernel
theorem dX10_readsTree_54 : decode cX10_readsTree 54 = .ok (.invokevirtual 162, 3) := by decide +kernel
theorem dX10_readsTree_57 : decode cX10_readsTree 57 = .ok (.ifCond .ge 5, 3) := by decide +kernel
theorem dX10_readsTree_60 : decode cX10_readsTree 60 = .ok (.iconst (-1), 1) := by decide +kernel
theorem dX10_readsTree_61 : decode cX10_readsTree 61 = .ok (.ireturn, 1) := by decide +kernel
theorem dX10_readsTree_62 : decode cX10_readsTree 62 = .ok (.iinc 2 (-1), 3) := by decide +kernel
theorem dX10_readsTree_65 : decode cX10_readsTree 65 = .ok (.goto 186, 3) := by decide +kernel
theorem dX10_readsTree_68 : decode cX10_readsTree 68 = .ok (.iload 4, 2) := by decide +kernel
theorem dX10_readsTree_70 : decode cX10_readsTree 70 = .ok (.bipush 42, 2) := by decide +kernel
theorem dX10_readsTree_72 : decode cX10_readsTree 72 = .ok (.if_icmp .ne 52, 3) := by decide +kernel
theorem dX10_readsTree_75 : decode cX10_readsTree 75 = .ok (.aload_n 0, 1) := by decide +kernel
theorem dX10_readsTree_76 : decode cX10_readsTree 76 = .ok (.dup, 1) := by decide +kernel
theorem dX10_readsTree_77 : decode cX10_readsTree 77 = .ok (.getfield 153, 3) := by decide +kernel
theorem dX10_readsTree_80 : decode cX10_readsTree 80 = .ok (.iconst 1, 1) := by decide +kernel
theorem dX10_readsTree_81 : decode cX10_readsTree 81 = .ok (.iadd, 1) := by decide +kernel
theorem dX10_readsTree_82 : decode cX10_readsTree 82 = .ok (.putfield 153, 3) := by decide +kernel
theorem dX10_readsTree_85 : decode cX10_readsTree 85 = .ok (.aload_n 0, 1) := by decide +kernel
theorem dX10_readsTree_86 : decode cX10_readsTree 86 = .ok (.getfield 44, 3) := by decide +kernel
theorem dX10_readsTree_89 : decode cX10_readsTree 89 = .ok (.iload_n 1, 1) := by decide +kernel
theorem dX10_readsTree_90 : decode cX10_readsTree 90 = .ok (.iconst 0, 1) := by decide +kernel
theorem dX10_readsTree_91 : decode cX10_readsTree 91 = .ok (.iastore, 1) := by decide +kernel
theorem dX10_readsTree_92 : decode cX10_readsTree 92 = .ok (.aload_n 0, 1) := by decide +kernel
theorem dX10_readsTree_93 : decode cX10_readsTree 93 = .ok (.getfield 47, 3) := by decide +kernel
theorem dX10_readsTree_96 : decode cX10_readsTree 96 = .ok (.iload_n 1, 1) := by decide +kernel
theorem dX10_readsTree_97 : decode cX10_readsTree 97 = .ok (.aload_n 0, 1) := by decide +kernel
theorem dX10_readsTree_98 : decode cX10_readsTree 98 = .ok (.getfield 165, 3) := by decide +kernel
theorem dX10_readsTree_101 : decode cX10_readsTree 101 = .ok (.iastore, 1) := by decide +kernel
theorem dX10_readsTree_102 : decode cX10_readsTree 102 = .ok (.aload_n 0, 1) := by decide +kernel
theorem dX10_readsTree_103 : decode cX10_readsTree 103 = .ok (.dup, 1) := by decide +kernel
theorem dX10_readsTree_104 : decode cX10_readsTree 104 = .ok (.getfield 165, 3) := by decide +kernel
theorem dX10_readsTree_107 : decode cX10_readsTree 107 = .ok (.iconst 1, 1) := by decide +kernel
theorem dX10_readsTree_108 : decode cX10_readsTree 108 = .ok (.iadd, 1) := by decide +kernel
theorem dX10_readsTree_109 : decode cX10_readsTree 109 = .ok (.putfield 165, 3) := by decide +kernel
theorem dX10_readsTree_112 : decode cX10_readsTree 112 = .ok (.aload_n 0, 1) := by decide +kernel
theorem dX10_readsTree_113 : decode cX10_readsTree 113 = .ok (.iload_n 1, 1) := by decide +kernel
theorem dX10_readsTree_114 : decode cX10_readsTree 114 = .ok (.iload_n 2, 1) := by decide +kernel
theorem dX10_readsTree_115 : decode cX10_readsTree 115 = .ok (.invokevirtual 174, 3) := by decide +kernel
theorem dX10_readsTree_118 : decode cX10_readsTree 118 = .ok (.iinc 1 1, 3) := by decide +kernel
theorem dX10_readsTree_121 : decode cX10_readsTree 121 = .ok (.goto 130, 3) := by decide +kernel
theorem dX10_readsTree_124 : decode cX10_readsTree 124 = .ok (.iload 5, 2) := by decide +kernel
theorem dX10_readsTree_126 : decode cX10_readsTree 126 = .ok (.ifCond .le 123, 3) := by decide +kernel
theorem dX10_readsTree_129 : decode cX10_readsTree 129 = .ok (.iload_n 2, 1) := by decide +kernel
theorem dX10_readsTree_130 : decode cX10_readsTree 130 = .ok (.bipush 7, 2) := by decide +kernel
theorem dX10_readsTree_132 : decode cX10_readsTree 132 = .ok (.if_icmp .ge 117, 3) := by decide +kernel
theorem dX10_readsTree_135 : decode cX10_readsTree 135 = .ok (.aload_n 0, 1) := by decide +kernel
theorem dX10_readsTree_136 : decode cX10_readsTree 136 = .ok (.dup, 1) := by decide +kernel
theorem dX10_readsTree_137 : decode cX10_readsTree 137 = .ok (.getfield 153, 3) := by decide +kernel
theorem dX10_readsTree_140 : decode cX10_readsTree 140 = .ok (.iconst 1, 1) := by decide +kernel
theorem dX10_readsTree_141 : decode cX10_readsTree 141 = .ok (.iadd, 1) := by decide +kernel
theorem dX10_readsTree_142 : decode cX10_readsTree 142 = .ok (.putfield 153, 3) := by decide +kernel
theorem dX10_readsTree_145 : decode cX10_readsTree 145 = .ok (.aload_n 0, 1) := by decide +kernel
theorem dX10_readsTree_146 : decode cX10_readsTree 146 = .ok (.bipush 48, 2) := by decide +kernel
theorem dX10_readsTree_148 : decode cX10_readsTree 148 = .ok (.iload 5, 2) := by decide +kernel
theorem dX10_readsTree_150 : decode cX10_readsTree 150 = .ok (.iconst 3, 1) := by decide +kernel
theorem dX10_readsTree_151 : decode cX10_readsTree 151 = .ok (.if_icmp .ge 8, 3) := by decide +kernel
theorem dX10_readsTree_154 : decode cX10_readsTree 154 = .ok (.bipush 54, 2) := by decide +kernel
theorem dX10_readsTree_156 : decode cX10_readsTree 156 = .ok (.goto 5, 3) := by decide +kernel
theorem dX10_readsTree_159 : decode cX10_readsTree 159 = .ok (.bipush 57, 2) := by decide +kernel
theorem dX10_readsTree_161 : decode cX10_readsTree 161 = .ok (.invokevirtual 162, 3) := by decide +kernel
theorem dX10_readsTree_164 : decode cX10_readsTree 164 = .ok (.istore 6, 2) := by decide +kernel
theorem dX10_readsTree_166 : decode cX10_readsTree 166 = .ok (.iload 6, 2) := by decide +kernel
theorem dX10_readsTree_168 : decode cX10_readsTree 168 = .ok (.ifCond .lt 14, 3) := by decide +kernel
theorem dX10_readsTree_171 : decode cX10_readsTree 171 = .ok (.aload_n 0, 1) := by decide +kernel
theorem dX10_readsTree_172 : decode cX10_readsTree 172 = .ok (.bipush 40, 2) := by decide +kernel
theorem dX10_readsTree_174 : decode cX10_readsTree 174 = .ok (.bipush 40, 2) := by decide +kernel
theorem dX10_readsTree_176 : decode cX10_readsTree 176 = .ok (.invokevirtual 162, 3) := by decide +kernel
theorem dX10_readsTree_179 : decode cX10_readsTree 179 = .ok (.ifCond .ge 5, 3) := by decide +kernel
theorem dX10_readsTree_182 : decode cX10_readsTree 182 = .ok (.iconst (-1), 1) := by decide +kernel
theorem dX10_readsTree_183 : decode cX10_readsTree 183 = .ok (.ireturn, 1) := by decide +kernel
theorem dX10_readsTree_184 : decode cX10_readsTree 184 = .ok (.aload_n 0, 1) := by decide +kernel
theorem dX10_readsTree_185 : decode cX10_readsTree 185 = .ok (.getfield 44, 3) := by decide +kernel
theorem dX10_readsTree_188 : decode cX10_readsTree 188 = .ok (.iload_n 1, 1) := by decide +kernel
theorem dX10_readsTree_189 : decode cX10_readsTree 189 = .ok (.iload 5, 2) := by decide +kernel
theorem dX10_readsTree_191 : decode cX10_readsTree 191 = .ok (.iastore, 1) := by decide +kernel
theorem dX10_readsTree_192 : decode cX10_readsTree 192 = .ok (.aload_n 0, 1) := by decide +kernel
theorem dX10_readsTree_193 : decode cX10_readsTree 193 = .ok (.getfield 47, 3) := by decide +kernel
theorem dX10_readsTree_196 : decode cX10_readsTree 196 = .ok (.iload_n 1, 1) := by decide +kernel
theorem dX10_readsTree_197 : decode cX10_readsTree 197 = .ok (.iload 6, 2) := by decide +kernel
theorem dX10_readsTree_199 : decode cX10_readsTree 199 = .ok (.iastore, 1) := by decide +kernel
theorem dX10_readsTree_200 : decode cX10_readsTree 200 = .ok (.aload_n 0, 1) := by decide +kernel
theorem dX10_readsTree_201 : decode cX10_readsTree 201 = .ok (.iload_n 1, 1) := by decide +kernel
theorem dX10_readsTree_202 : decode cX10_readsTree 202 = .ok (.iload_n 2, 1) := by decide +kernel
theorem dX10_readsTree_203 : decode cX10_readsTree 203 = .ok (.invokevirtual 174, 3) := by decide +kernel
theorem dX10_readsTree_206 : decode cX10_readsTree 206 = .ok (.aload_n 0, 1) := by decide +kernel
theorem dX10_readsTree_207 : decode cX10_readsTree 207 = .ok (.getfield 56, 3) := by decide +kernel
theorem dX10_readsTree_210 : decode cX10_readsTree 210 = .ok (.iload_n 2, 1) := by decide +kernel
theorem dX10_readsTree_211 : decode cX10_readsTree 211 = .ok (.iload_n 1, 1) := by decide +kernel
theorem dX10_readsTree_212 : decode cX10_readsTree 212 = .ok (.iastore, 1) := by decide +kernel
theorem dX10_readsTree_213 : decode cX10_readsTree 213 = .ok (.aload_n 0, 1) := by decide +kernel
theorem dX10_readsTree_214 : decode cX10_readsTree 214 = .ok (.getfield 59, 3) := by decide +kernel
theorem dX10_readsTree_217 : decode cX10_readsTree 217 = .ok (.iload_n 2, 1) := by decide +kernel
theorem dX10_readsTree_218 : decode cX10_readsTree 218 = .ok (.iconst 0, 1) := by decide +kernel
theorem dX10_readsTree_219 : decode cX10_readsTree 219 = .ok (.iastore, 1) := by decide +kernel
theorem dX10_readsTree_220 : decode cX10_readsTree 220 = .ok (.iinc 2 1, 3) := by decide +kernel
theorem dX10_readsTree_223 : decode cX10_readsTree 223 = .ok (.aload_n 0, 1) := by decide +kernel
theorem dX10_readsTree_224 : decode cX10_readsTree 224 = .ok (.iload_n 2, 1) := by decide +kernel
theorem dX10_readsTree_225 : decode cX10_readsTree 225 = .ok (.aload_n 0, 1) := by decide +kernel
theorem dX10_readsTree_226 : decode cX10_readsTree 226 = .ok (.getfield 168, 3) := by decide +kernel
theorem dX10_readsTree_229 : decode cX10_readsTree 229 = .ok (.if_icmp .le 7, 3) := by decide +kernel
theorem dX10_readsTree_232 : decode cX10_readsTree 232 = .ok (.iload_n 2, 1) := by decide +kernel
theorem dX10_readsTree_233 : decode cX10_readsTree 233 = .ok (.goto 7, 3) := by decide +kernel
theorem dX10_readsTree_236 : decode cX10_readsTree 236 = .ok (.aload_n 0, 1) := by decide +kernel
theorem dX10_readsTree_237 : decode cX10_readsTree 237 = .ok (.getfield 168, 3) := by decide +kernel
theorem dX10_readsTree_240 : decode cX10_readsTree 240 = .ok (.putfield 168, 3) := by decide +kernel
theorem dX10_readsTree_243 : decode cX10_readsTree 243 = .ok (.iinc 1 1, 3) := by decide +kernel
theorem dX10_readsTree_246 : decode cX10_readsTree 246 = .ok (.goto 5, 3) := by decide +kernel
theorem dX10_readsTree_249 : decode cX10_readsTree 249 = .ok (.iconst (-1), 1) := by decide +kernel
theorem dX10_readsTree_250 : decode cX10_readsTree 250 = .ok (.ireturn, 1) := by decide +kernel
theorem dX10_readsTree_251 : decode cX10_readsTree 251 = .ok (.iload_n 2, 1) := by decide +kernel
theorem dX10_readsTree_252 : decode cX10_readsTree 252 = .ok (.ifCond .ne 7, 3) := by decide +kernel
theorem dX10_readsTree_255 : decode cX10_readsTree 255 = .ok (.iconst 1, 1) := by decide +kernel
theorem dX10_readsTree_256 : decode cX10_readsTree 256 = .ok (.goto 4, 3) := by decide +kernel
theorem dX10_readsTree_259 : decode cX10_readsTree 259 = .ok (.iconst 0, 1) := by decide +kernel
theorem dX10_readsTree_260 : decode cX10_readsTree 260 = .ok (.istore_n 3, 1) := by decide +kernel
theorem dX10_readsTree_261 : decode cX10_readsTree 261 = .ok (.goto (-245), 3) := by decide +kernel
theorem dX10_readsTree_264 : decode cX10_readsTree 264 = .ok (.aload_n 0, 1) := by decide +kernel
theorem dX10_readsTree_265 : decode cX10_readsTree 265 = .ok (.getfield 165, 3) := by decide +kernel
theorem dX10_readsTree_268 : decode cX10_readsTree 268 = .ok (.ireturn, 1) := by decide +kernel
theorem dX10_reads_0 : decode cX10_reads 0 = .ok (.aload_n 0, 1) := by decide +kernel
theorem dX10_reads_1 : decode cX10_reads 1 = .ok (.iconst 0, 1) := by decide +kernel
theorem dX10_reads_2 : decode cX10_reads 2 = .ok (.putfield 153, 3) := by decide +kernel
theorem dX10_reads_5 : decode cX10_reads 5 = .ok (.aload_n 0, 1) := by decide +kernel
theorem dX10_reads_6 : decode cX10_reads 6 = .ok (.invokevirtual 178, 3) := by decide +kernel
theorem dX10_reads_9 : decode cX10_reads 9 = .ok (.istore_n 1, 1) := by decide +kernel
theorem dX10_reads_10 : decode cX10_reads 10 = .ok (.iload_n 1, 1) := by decide +kernel
theorem dX10_reads_11 : decode cX10_reads 11 = .ok (.ifCond .ge 7, 3) := by decide +kernel
theorem dX10_reads_14 : decode cX10_reads 14 = .ok (.iconst (-1), 1) := by decide +kernel
theorem dX10_reads_15 : decode cX10_reads 15 = .ok (.goto 18, 3) := by decide +kernel
theorem dX10_reads_18 : decode cX10_reads 18 = .ok (.iload_n 1, 1) := by decide +kernel
theorem dX10_reads_19 : decode cX10_reads 19 = .ok (.ifCond .ne 10, 3) := by decide +kernel
theorem dX10_reads_22 : decode cX10_reads 22 = .ok (.aload_n 0, 1) := by decide +kernel
theorem dX10_reads_23 : decode cX10_reads 23 = .ok (.invokevirtual 181, 3) := by decide +kernel
theorem dX10_reads_26 : decode cX10_reads 26 = .ok (.goto 7, 3) := by decide +kernel
theorem dX10_reads_29 : decode cX10_reads 29 = .ok (.aload_n 0, 1) := by decide +kernel
theorem dX10_reads_30 : decode cX10_reads 30 = .ok (.invokevirtual 184, 3) := by decide +kernel
theorem dX10_reads_33 : decode cX10_reads 33 = .ok (.istore_n 2, 1) := by decide +kernel
theorem dX10_reads_34 : decode cX10_reads 34 = .ok (.iload_n 2, 1) := by decide +kernel
theorem dX10_reads_35 : decode cX10_reads 35 = .ok (.ifCond .lt 36, 3) := by decide +kernel
theorem dX10_reads_38 : decode cX10_reads 38 = .ok (.aload_n 0, 1) := by decide +kernel
theorem dX10_reads_39 : decode cX10_reads 39 = .ok (.bipush 59, 2) := by decide +kernel
theorem dX10_reads_41 : decode cX10_reads 41 = .ok (.bipush 59, 2) := by decide +kernel
theorem dX10_reads_43 : decode cX10_reads 43 = .ok (.invokevirtual 162, 3) := by decide +kernel
theorem dX10_reads_46 : decode cX10_reads 46 = .ok (.ifCond .ne 25, 3) := by decide +kernel
theorem dX10_reads_49 : decode cX10_reads 49 = .ok (.aload_n 0, 1) := by decide +kernel
theorem dX10_reads_50 : decode cX10_reads 50 = .ok (.invokevirtual 156, 3) := by decide +kernel
theorem dX10_reads_53 : decode cX10_reads 53 = .ok (.ifCond .ne 18, 3) := by decide +kernel
theorem dX10_reads_56 : decode cX10_reads 56 = .ok (.aload_n 0, 1) := by decide +kernel
theorem dX10_reads_57 : decode cX10_reads 57 = .ok (.getfield 153, 3) := by decide +kernel
theorem dX10_reads_60 : decode cX10_reads 60 = .ok (.aload_n 0, 1) := by decide +kernel
theorem dX10_reads_61 : decode cX10_reads 61 = .ok (.getfield 150, 3) := by decide +kernel
theorem dX10_reads_64 : decode cX10_reads 64 = .ok (.if_icmp .ne 7, 3) := by decide +kernel
theorem dX10_reads_67 : decode cX10_reads 67 = .ok (.iconst 1, 1) := by decide +kernel
theorem dX10_reads_68 : decode cX10_reads 68 = .ok (.goto 4, 3) := by decide +kernel
theorem dX10_reads_71 : decode cX10_reads 71 = .ok (.iconst 0, 1) := by decide +kernel
theorem dX10_reads_72 : decode cX10_reads 72 = .ok (.istore_n 3, 1) := by decide +kernel
theorem dX10_reads_73 : decode cX10_reads 73 = .ok (.iload_n 3, 1) := by decide +kernel
theorem dX10_reads_74 : decode cX10_reads 74 = .ok (.ifCond .ne 29, 3) := by decide +kernel
theorem dX10_reads_77 : decode cX10_reads 77 = .ok (.iload_n 2, 1) := by decide +kernel
theorem dX10_reads_78 : decode cX10_reads 78 = .ok (.ifCond .ge 11, 3) := by decide +kernel
theorem dX10_reads_81 : decode cX10_reads 81 = .ok (.iload_n 1, 1) := by decide +kernel
theorem dX10_reads_82 : decode cX10_reads 82 = .ok (.ifCond .ge 7, 3) := by decide +kernel
theorem dX10_reads_85 : decode cX10_reads 85 = .ok (.iconst 0, 1) := by decide +kernel
theorem dX10_reads_86 : decode cX10_reads 86 = .ok (.goto 7, 3) := by decide +kernel
theorem dX10_reads_89 : decode cX10_reads 89 = .ok (.aload_n 0, 1) := by decide +kernel
theorem dX10_reads_90 : decode cX10_reads 90 = .ok (.invokevirtual 156, 3) := by decide +kernel
theorem dX10_reads_93 : decode cX10_reads 93 = .ok (.istore 4, 2) := by decide +kernel
theorem dX10_reads_95 : decode cX10_reads 95 = .ok (.bipush (-10), 2) := by decide +kernel
theorem dX10_reads_97 : decode cX10_reads 97 = .ok (.aload_n 0, 1) := by decide +kernel
theorem dX10_reads_98 : decode cX10_reads 98 = .ok (.getfield 153, 3) := by decide +kernel
theorem dX10_reads_101 : decode cX10_reads 101 = .ok (.isub, 1) := by decide +kernel
theorem dX10_reads_102 : decode cX10_reads 102 = .ok (.ireturn, 1) := by decide +kernel
theorem dX10_reads_103 : decode cX10_reads 103 = .ok (.iload_n 1, 1) := by decide +kernel
theorem dX10_reads_104 : decode cX10_reads 104 = .ok (.ifCond .ne 42, 3) := by decide +kernel
theorem dX10_reads_107 : decode cX10_reads 107 = .ok (.aload_n 0, 1) := by decide +kernel
theorem dX10_reads_108 : decode cX10_reads 108 = .ok (.iload_n 2, 1) := by decide +kernel
theorem dX10_reads_109 : decode cX10_reads 109 = .ok (.putfield 187, 3) := by decide +kernel
theorem dX10_reads_112 : decode cX10_reads 112 = .ok (.iconst 0, 1) := by decide +kernel
theorem dX10_reads_113 : decode cX10_reads 113 = .ok (.istore 4, 2) := by decide +kernel
theorem dX10_reads_115 : decode cX10_reads 115 = .ok (.iload 4, 2) := by decide +kernel
theorem dX10_reads_117 : decode cX10_reads 117 = .ok (.iconst 3, 1) := by decide +kernel
theorem dX10_reads_118 : decode cX10_reads 118 = .ok (.iload_n 2, 1) := by decide +kernel
theorem dX10_reads_119 : decode cX10_reads 119 = .ok (.imul, 1) := by decide +kernel
theorem dX10_reads_120 : decode cX10_reads 120 = .ok (.if_icmp .ge 23, 3) := by decide +kernel
theorem dX10_reads_123 : decode cX10_reads 123 = .ok (.aload_n 0, 1) := by decide +kernel
theorem dX10_reads_124 : decode cX10_reads 124 = .ok (.getfield 13, 3) := by decide +kernel
theorem dX10_reads_127 : decode cX10_reads 127 = .ok (.iload 4, 2) := by decide +kernel
theorem dX10_reads_129 : decode cX10_reads 129 = .ok (.aload_n 0, 1) := by decide +kernel
theorem dX10_reads_130 : decode cX10_reads 130 = .ok (.getfield 41, 3) := by decide +kernel
theorem dX10_reads_133 : decode cX10_reads 133 = .ok (.iload 4, 2) := by decide +kernel
theorem dX10_reads_135 : decode cX10_reads 135 = .ok (.iaload, 1) := by decide +kernel
theorem dX10_reads_136 : decode cX10_reads 136 = .ok (.iastore, 1) := by decide +kernel
theorem dX10_reads_137 : decode cX10_reads 137 = .ok (.iinc 4 1, 3) := by decide +kernel
theorem dX10_reads_140 : decode cX10_reads 140 = .ok (.goto (-25), 3) := by decide +kernel
theorem dX10_reads_143 : decode cX10_reads 143 = .ok (.goto 89, 3) := by decide +kernel
theorem dX10_reads_146 : decode cX10_reads 146 = .ok (.aload_n 0, 1) := by decide +kernel
theorem dX10_reads_147 : decode cX10_reads 147 = .ok (.iload_n 2, 1) := by decide +kernel
theorem dX10_reads_148 : decode cX10_reads 148 = .ok (.putfield 31, 3) := by decide +kernel
theorem dX10_reads_151 : decode cX10_reads 151 = .ok (.aload_n 0, 1) := by decide +kernel
theorem dX10_reads_152 : decode cX10_reads 152 = .ok (.aload_n 0, 1) := by decide +kernel
theorem dX10_reads_153 : decode cX10_reads 153 = .ok (.getfield 168, 3) := by decide +kernel
theorem dX10_reads_156 : decode cX10_reads 156 = .ok (.putfield 190, 3) := by decide +kernel
theorem dX10_reads_159 : decode cX10_reads 159 = .ok (.iconst 0, 1) := by decide +kernel
theorem dX10_reads_160 : decode cX10_reads 160 = .ok (.istore 4, 2) := by decide +kernel
theorem dX10_reads_162 : decode cX10_reads 162 = .ok (.iload 4, 2) := by decide +kernel
theorem dX10_reads_164 : decode cX10_reads 164 = .ok (.sipush 128, 3) := by decide +kernel
theorem dX10_reads_167 : decode cX10_reads 167 = .ok (.if_icmp .ge 65, 3) := by decide +kernel
theorem dX10_reads_170 : decode cX10_reads 170 = .ok (.aload_n 0, 1) := by decide +kernel
theorem dX10_reads_171 : decode cX10_reads 171 = .ok (.getfield 19, 3) := by decide +kernel
theorem dX10_reads_174 : decode cX10_reads 174 = .ok (.iload 4, 2) := by decide +kernel
theorem dX10_reads_176 : decode cX10_reads 176 = .ok (.aload_n 0, 1) := by decide +kernel
theorem dX10_reads_177 : decode cX10_reads 177 = .ok (.getfield 44, 3) := by decide +kernel
theorem dX10_reads_180 : decode cX10_reads 180 = .ok (.iload 4, 2) := by decide +kernel
theorem dX10_reads_182 : decode cX10_reads 182 = .ok (.iaload, 1) := by decide +kernel
theorem dX10_reads_183 : decode cX10_reads 183 = .ok (.iastore, 1) := by decide +kernel
theorem dX10_reads_184 : decode cX10_reads 184 = .ok (.aload_n 0, 1) := by decide +kernel
theorem dX10_reads_185 : decode cX10_reads 185 = .ok (.getfield 22, 3) := by decide +kernel
theorem dX10_reads_188 : decode cX10_reads 188 = .ok (.iload 4, 2) := by decide +kernel
theorem dX10_reads_190 : decode cX10_reads 190 = .ok (.aload_n 0, 1) := by decide +kernel
theorem dX10_reads_191 : decode cX10_reads 191 = .ok (.getfield 47, 3) := by decide +kernel
theorem dX10_reads_194 : decode cX10_reads 194 = .ok (.iload 4, 2) := by decide +kernel
theorem dX10_reads_196 : decode cX10_reads 196 = .ok (.iaload, 1) := by decide +kernel
theorem dX10_reads_197 : decode cX10_reads 197 = .ok (.iastore, 1) := by decide +kernel
theorem dX10_reads_198 : decode cX10_reads 198 = .ok (.aload_n 0, 1) := by decide +kernel
theorem dX10_reads_199 : decode cX10_reads 199 = .ok (.getfield 25, 3) := by decide +kernel
theorem dX10_reads_202 : decode cX10_reads 202 = .ok (.iload 4, 2) := by decide +kernel
theorem dX10_reads_204 : decode cX10_reads 204 = .ok (.aload_n 0, 1) := by decide +kernel
theorem dX10_reads_205 : decode cX10_reads 205 = .ok (.getfield 50, 3) := by decide +kernel
theorem dX10_reads_208 : decode cX10_reads 208 = .ok (.iload 4, 2) := by decide +kernel
theorem dX10_reads_210 : decode cX10_reads 210 = .ok (.iaload, 1) := by decide +kernel
theorem dX10_reads_211 : decode cX10_reads 211 = .ok (.iastore, 1) := by decide +kernel
theorem dX10_reads_212 : decode cX10_reads 212 = .ok (.aload_n 0, 1) := by decide +kernel
theorem dX10_reads_213 : decode cX10_reads 213 = .ok (.getfield 28, 3) := by decide +kernel
theorem dX10_reads_216 : decode cX10_reads 216 = .ok (.iload 4, 2) := by decide +kernel
theorem dX10_reads_218 : decode cX10_reads 218 = .ok (.aload_n 0, 1) := by decide +kernel
theorem dX10_reads_219 : decode cX10_reads 219 = .ok (.getfield 53, 3) := by decide +kernel
theorem dX10_reads_222 : decode cX10_reads 222 = .ok (.iload 4, 2) := by decide +kernel
theorem dX10_reads_224 : decode cX10_reads 224 = .ok (.iaload, 1) := by decide +kernel
theorem dX10_reads_225 : decode cX10_reads 225 = .ok (.iastore, 1) := by decide +kernel
theorem dX10_reads_226 : decode cX10_reads 226 = .ok (.iinc 4 1, 3) := by decide +kernel
theorem dX10_reads_229 : decode cX10_reads 229 = .ok (.goto (-67), 3) := by decide +kernel
theorem dX10_reads_232 : decode cX10_reads 232 = .ok (.iload_n 2, 1) := by decide +kernel
theorem dX10_reads_233 : decode cX10_reads 233 = .ok (.ireturn, 1) := by decide +kernel
theorem dX10_isTarget_0 : decode cX10_isTarget 0 = .ok (.iload_n 1, 1) := by decide +kernel
theorem dX10_isTarget_1 : decode cX10_isTarget 1 = .ok (.i2l, 1) := by decide +kernel
theorem dX10_isTarget_2 : decode cX10_isTarget 2 = .ok (.lconst 0, 1) := by decide +kernel
theorem dX10_isTarget_3 : decode cX10_isTarget 3 = .ok (.aload_n 0, 1) := by decide +kernel
theorem dX10_isTarget_4 : decode cX10_isTarget 4 = .ok (.getfield 187, 3) := by decide +kernel
theorem dX10_isTarget_7 : decode cX10_isTarget 7 = .ok (.iconst 1, 1) := by decide +kernel
theorem dX10_isTarget_8 : decode cX10_isTarget 8 = .ok (.isub, 1) := by decide +kernel
theorem dX10_isTarget_9 : decode cX10_isTarget 9 = .ok (.i2l, 1) := by decide +kernel
theorem dX10_isTarget_10 : decode cX10_isTarget 10 = .ok (.invokestatic 89, 3) := by decide +kernel
theorem dX10_isTarget_13 : decode cX10_isTarget 13 = .ok (.ireturn, 1) := by decide +kernel
theorem dX10_targetLeft_0 : decode cX10_targetLeft 0 = .ok (.iload_n 1, 1) := by decide +kernel
theorem dX10_targetLeft_1 : decode cX10_targetLeft 1 = .ok (.ifCond .ne 8, 3) := by decide +kernel
theorem dX10_targetLeft_4 : decode cX10_targetLeft 4 = .ok (.bipush 6, 2) := by decide +kernel
theorem dX10_targetLeft_6 : decode cX10_targetLeft 6 = .ok (.goto 13, 3) := by decide +kernel
theorem dX10_targetLeft_9 : decode cX10_targetLeft 9 = .ok (.aload_n 0, 1) := by decide +kernel
theorem dX10_targetLeft_10 : decode cX10_targetLeft 10 = .ok (.getfield 13, 3) := by decide +kernel
theorem dX10_targetLeft_13 : decode cX10_targetLeft 13 = .ok (.iconst 3, 1) := by decide +kernel
theorem dX10_targetLeft_14 : decode cX10_targetLeft 14 = .ok (.iload_n 1, 1) := by decide +kernel
theorem dX10_targetLeft_15 : decode cX10_targetLeft 15 = .ok (.iconst 1, 1) := by decide +kernel
theorem dX10_targetLeft_16 : decode cX10_targetLeft 16 = .ok (.isub, 1) := by decide +kernel
theorem dX10_targetLeft_17 : decode cX10_targetLeft 17 = .ok (.imul, 1) := by decide +kernel
theorem dX10_targetLeft_18 : decode cX10_targetLeft 18 = .ok (.iaload, 1) := by decide +kernel
theorem dX10_targetLeft_19 : decode cX10_targetLeft 19 = .ok (.ireturn, 1) := by decide +kernel
theorem dX10_targetRight_0 : decode cX10_targetRight 0 = .ok (.iload_n 1, 1) := by decide +kernel
theorem dX10_targetRight_1 : decode cX10_targetRight 1 = .ok (.aload_n 0, 1) := by decide +kernel
theorem dX10_targetRight_2 : decode cX10_targetRight 2 = .ok (.getfield 187, 3) := by decide +kernel
theorem dX10_targetRight_5 : decode cX10_targetRight 5 = .ok (.iconst 1, 1) := by decide +kernel
theorem dX10_targetRight_6 : decode cX10_targetRight 6 = .ok (.isub, 1) := by decide +kernel
theorem dX10_targetRight_7 : decode cX10_targetRight 7 = .ok (.if_icmp .ne 8, 3) := by decide +kernel
theorem dX10_targetRight_10 : decode cX10_targetRight 10 = .ok (.bipush 6, 2) := by decide +kernel
theorem dX10_targetRight_12 : decode cX10_targetRight 12 = .ok (.goto 13, 3) := by decide +kernel
theorem dX10_targetRight_15 : decode cX10_targetRight 15 = .ok (.aload_n 0, 1) := by decide +kernel
theorem dX10_targetRight_16 : decode cX10_targetRight 16 = .ok (.getfield 13, 3) := by decide +kernel
theorem dX10_targetRight_19 : decode cX10_targetRight 19 = .ok (.iconst 3, 1) := by decide +kernel
theorem dX10_targetRight_20 : decode cX10_targetRight 20 = .ok (.iload_n 1, 1) := by decide +kernel
theorem dX10_targetRight_21 : decode cX10_targetRight 21 = .ok (.iconst 1, 1) := by decide +kernel
theorem dX10_targetRight_22 : decode cX10_targetRight 22 = .ok (.iadd, 1) := by decide +kernel
theorem dX10_targetRight_23 : decode cX10_targetRight 23 = .ok (.imul, 1) := by decide +kernel
theorem dX10_targetRight_24 : decode cX10_targetRight 24 = .ok (.iaload, 1) := by decide +kernel
theorem dX10_targetRight_25 : decode cX10_targetRight 25 = .ok (.ireturn, 1) := by decide +kernel
theorem dX10_target_0 : decode cX10_target 0 = .ok (.aload_n 0, 1) := by decide +kernel
theorem dX10_target_1 : decode cX10_target 1 = .ok (.iload_n 1, 1) := by decide +kernel
theorem dX10_target_2 : decode cX10_target 2 = .ok (.invokevirtual 193, 3) := by decide +kernel
theorem dX10_target_5 : decode cX10_target 5 = .ok (.ifCond .eq 15, 3) := by decide +kernel
theorem dX10_target_8 : decode cX10_target 8 = .ok (.iload_n 2, 1) := by decide +kernel
theorem dX10_target_9 : decode cX10_target 9 = .ok (.i2l, 1) := by decide +kernel
theorem dX10_target_10 : decode cX10_target 10 = .ok (.lconst 0, 1) := by decide +kernel
theorem dX10_target_11 : decode cX10_target 11 = .ok (.ldc2_w 143, 3) := by decide +kernel
theorem dX10_target_14 : decode cX10_target 14 = .ok (.invokestatic 89, 3) := by decide +kernel
theorem dX10_target_17 : decode cX10_target 17 = .ok (.ifCond .ne 10, 3) := by decide +kernel
theorem dX10_target_20 : decode cX10_target 20 = .ok (.aload_n 0, 1) := by decide +kernel
theorem dX10_target_21 : decode cX10_target 21 = .ok (.bipush (-2), 2) := by decide +kernel
theorem dX10_target_23 : decode cX10_target 23 = .ok (.invokevirtual 105, 3) := by decide +kernel
theorem dX10_target_26 : decode cX10_target 26 = .ok (.ireturn, 1) := by decide +kernel
theorem dX10_target_27 : decode cX10_target 27 = .ok (.iload_n 2, 1) := by decide +kernel
theorem dX10_target_28 : decode cX10_target 28 = .ok (.iconst 3, 1) := by decide +kernel
theorem dX10_target_29 : decode cX10_target 29 = .ok (.if_icmp .ge 16, 3) := by decide +kernel
theorem dX10_target_32 : decode cX10_target 32 = .ok (.aload_n 0, 1) := by decide +kernel
theorem dX10_target_33 : decode cX10_target 33 = .ok (.getfield 13, 3) := by decide +kernel
theorem dX10_target_36 : decode cX10_target 36 = .ok (.iconst 3, 1) := by decide +kernel
theorem dX10_target_37 : decode cX10_target 37 = .ok (.iload_n 1, 1) := by decide +kernel
theorem dX10_target_38 : decode cX10_target 38 = .ok (.imul, 1) := by decide +kernel
theorem dX10_target_39 : decode cX10_target 39 = .ok (.iload_n 2, 1) := by decide +kernel
theorem dX10_target_40 : decode cX10_target 40 = .ok (.iadd, 1) := by decide +kernel
theorem dX10_target_41 : decode cX10_target 41 = .ok (.iaload, 1) := by decide +kernel
theorem dX10_target_42 : decode cX10_target 42 = .ok (.goto 21, 3) := by decide +kernel
theorem dX10_target_45 : decode cX10_target 45 = .ok (.iload_n 2, 1) := by decide +kernel
theorem dX10_target_46 : decode cX10_target 46 = .ok (.iconst 3, 1) := by decide +kernel
theorem dX10_target_47 : decode cX10_target 47 = .ok (.if_icmp .ne 11, 3) := by decide +kernel
theorem dX10_target_50 : decode cX10_target 50 = .ok (.aload_n 0, 1) := by decide +kernel
theorem dX10_target_51 : decode cX10_target 51 = .ok (.iload_n 1, 1) := by decide +kernel
theorem dX10_target_52 : decode cX10_target 52 = .ok (.invokevirtual 196, 3) := by decide +kernel
theorem dX10_target_55 : decode cX10_target 55 = .ok (.goto 8, 3) := by decide +kernel
theorem dX10_target_58 : decode cX10_target 58 = .ok (.aload_n 0, 1) := by decide +kernel
theorem dX10_target_59 : decode cX10_target 59 = .ok (.iload_n 1, 1) := by decide +kernel
theorem dX10_target_60 : decode cX10_target 60 = .ok (.invokevirtual 199, 3) := by decide +kernel
theorem dX10_target_63 : decode cX10_target 63 = .ok (.ireturn, 1) := by decide +kernel
theorem dX10_answers_0 : decode cX10_answers 0 = .ok (.aload_n 0, 1) := by decide +kernel
theorem dX10_answers_1 : decode cX10_answers 1 = .ok (.getfield 22, 3) := by decide +kernel
theorem dX10_answers_4 : decode cX10_answers 4 = .ok (.iload_n 1, 1) := by decide +kernel
theorem dX10_answers_5 : decode cX10_answers 5 = .ok (.iaload, 1) := by decide +kernel
theorem dX10_answers_6 : decode cX10_answers 6 = .ok (.istore 6, 2) := by decide +kernel
theorem dX10_answers_8 : decode cX10_answers 8 = .ok (.aload_n 0, 1) := by decide +kernel
theorem dX10_answers_9 : decode cX10_answers 9 = .ok (.getfield 19, 3) := by decide +kernel
theorem dX10_answers_12 : decode cX10_answers 12 = .ok (.iload_n 1, 1) := by decide +kernel
theorem dX10_answers_13 : decode cX10_answers 13 = .ok (.iaload, 1) := by decide +kernel
theorem dX10_answers_14 : decode cX10_answers 14 = .ok (.tableswitch 63 1 3 #[26, 38, 50], 26) := by decide +kernel
theorem dX10_answers_40 : decode cX10_answers 40 = .ok (.iload_n 2, 1) := by decide +kernel
theorem dX10_answers_41 : decode cX10_answers 41 = .ok (.iload 6, 2) := by decide +kernel
theorem dX10_answers_43 : decode cX10_answers 43 = .ok (.if_icmp .ne 7, 3) := by decide +kernel
theorem dX10_answers_46 : decode cX10_answers 46 = .ok (.iconst 1, 1) := by decide +kernel
theorem dX10_answers_47 : decode cX10_answers 47 = .ok (.goto 4, 3) := by decide +kernel
theorem dX10_answers_50 : decode cX10_answers 50 = .ok (.iconst 0, 1) := by decide +kernel
theorem dX10_answers_51 : decode cX10_answers 51 = .ok (.ireturn, 1) := by decide +kernel
theorem dX10_answers_52 : decode cX10_answers 52 = .ok (.iload_n 3, 1) := by decide +kernel
theorem dX10_answers_53 : decode cX10_answers 53 = .ok (.iload 6, 2) := by decide +kernel
theorem dX10_answers_55 : decode cX10_answers 55 = .ok (.if_icmp .ne 7, 3) := by decide +kernel
theorem dX10_answers_58 : decode cX10_answers 58 = .ok (.iconst 1, 1) := by decide +kernel
theorem dX10_answers_59 : decode cX10_answers 59 = .ok (.goto 4, 3) := by decide +kernel
theorem dX10_answers_62 : decode cX10_answers 62 = .ok (.iconst 0, 1) := by decide +kernel
theorem dX10_answers_63 : decode cX10_answers 63 = .ok (.ireturn, 1) := by decide +kernel
theorem dX10_answers_64 : decode cX10_answers 64 = .ok (.iload 4, 2) := by decide +kernel
theorem dX10_answers_66 : decode cX10_answers 66 = .ok (.iload 6, 2) := by decide +kernel
theorem dX10_answers_68 : decode cX10_answers 68 = .ok (.if_icmp .le 7, 3) := by decide +kernel
theorem dX10_answers_71 : decode cX10_answers 71 = .ok (.iconst 1, 1) := by decide +kernel
theorem dX10_answers_72 : decode cX10_answers 72 = .ok (.goto 4, 3) := by decide +kernel
theorem dX10_answers_75 : decode cX10_answers 75 = .ok (.iconst 0, 1) := by decide +kernel
theorem dX10_answers_76 : decode cX10_answers 76 = .ok (.ireturn, 1) := by decide +kernel
theorem dX10_answers_77 : decode cX10_answers 77 = .ok (.iload 5, 2) := by decide +kernel
theorem dX10_answers_79 : decode cX10_answers 79 = .ok (.iload 6, 2) := by decide +kernel
theorem dX10_answers_81 : decode cX10_answers 81 = .ok (.if_icmp .le 7, 3) := by decide +kernel
theorem dX10_answers_84 : decode cX10_answers 84 = .ok (.iconst 1, 1) := by decide +kernel
theorem dX10_answers_85 : decode cX10_answers 85 = .ok (.goto 4, 3) := by decide +kernel
theorem dX10_answers_88 : decode cX10_answers 88 = .ok (.iconst 0, 1) := by decide +kernel
theorem dX10_answers_89 : decode cX10_answers 89 = .ok (.ireturn, 1) := by decide +kernel
theorem dX10_unitAnswers_0 : decode cX10_unitAnswers 0 = .ok (.aload_n 0, 1) := by decide +kernel
theorem dX10_unitAnswers_1 : decode cX10_unitAnswers 1 = .ok (.iload_n 1, 1) := by decide +kernel
theorem dX10_unitAnswers_2 : decode cX10_unitAnswers 2 = .ok (.aload_n 0, 1) := by decide +kernel
theorem dX10_unitAnswers_3 : decode cX10_unitAnswers 3 = .ok (.iload_n 2, 1) := by decide +kernel
theorem dX10_unitAnswers_4 : decode cX10_unitAnswers 4 = .ok (.iconst 1, 1) := by decide +kernel
theorem dX10_unitAnswers_5 : decode cX10_unitAnswers 5 = .ok (.invokevirtual 125, 3) := by decide +kernel
theorem dX10_unitAnswers_8 : decode cX10_unitAnswers 8 = .ok (.aload_n 0, 1) := by decide +kernel
theorem dX10_unitAnswers_9 : decode cX10_unitAnswers 9 = .ok (.iload_n 2, 1) := by decide +kernel
theorem dX10_unitAnswers_10 : decode cX10_unitAnswers 10 = .ok (.iconst 2, 1) := by decide +kernel
theorem dX10_unitAnswers_11 : decode cX10_unitAnswers 11 = .ok (.invokevirtual 125, 3) := by decide +kernel
theorem dX10_unitAnswers_14 : decode cX10_unitAnswers 14 = .ok (.aload_n 0, 1) := by decide +kernel
theorem dX10_unitAnswers_15 : decode cX10_unitAnswers 15 = .ok (.iload_n 2, 1) := by decide +kernel
theorem dX10_unitAnswers_16 : decode cX10_unitAnswers 16 = .ok (.iconst 3, 1) := by decide +kernel
theorem dX10_unitAnswers_17 : decode cX10_unitAnswers 17 = .ok (.invokevirtual 125, 3) := by decide +kernel
theorem dX10_unitAnswers_20 : decode cX10_unitAnswers 20 = .ok (.aload_n 0, 1) := by decide +kernel
theorem dX10_unitAnswers_21 : decode cX10_unitAnswers 21 = .ok (.iload_n 2, 1) := by decide +kernel
theorem dX10_unitAnswers_22 : decode cX10_unitAnswers 22 = .ok (.iconst 4, 1) := by decide +kernel
theorem dX10_unitAnswers_23 : decode cX10_unitAnswers 23 = .ok (.invokevirtual 125, 3) := by decide +kernel
theorem dX10_unitAnswers_26 : decode cX10_unitAnswers 26 = .ok (.invokevirtual 202, 3) := by decide +kernel
theorem dX10_unitAnswers_29 : decode cX10_unitAnswers 29 = .ok (.ireturn, 1) := by decide +kernel
theorem dX10_targetAnswers_0 : decode cX10_targetAnswers 0 = .ok (.aload_n 0, 1) := by decide +kernel
theorem dX10_targetAnswers_1 : decode cX10_targetAnswers 1 = .ok (.iload_n 1, 1) := by decide +kernel
theorem dX10_targetAnswers_2 : decode cX10_targetAnswers 2 = .ok (.aload_n 0, 1) := by decide +kernel
theorem dX10_targetAnswers_3 : decode cX10_targetAnswers 3 = .ok (.iload_n 2, 1) := by decide +kernel
theorem dX10_targetAnswers_4 : decode cX10_targetAnswers 4 = .ok (.invokevirtual 196, 3) := by decide +kernel
theorem dX10_targetAnswers_7 : decode cX10_targetAnswers 7 = .ok (.aload_n 0, 1) := by decide +kernel
theorem dX10_targetAnswers_8 : decode cX10_targetAnswers 8 = .ok (.iload_n 2, 1) := by decide +kernel
theorem dX10_targetAnswers_9 : decode cX10_targetAnswers 9 = .ok (.invokevirtual 199, 3) := by decide +kernel
theorem dX10_targetAnswers_12 : decode cX10_targetAnswers 12 = .ok (.aload_n 0, 1) := by decide +kernel
theorem dX10_targetAnswers_13 : decode cX10_targetAnswers 13 = .ok (.getfield 13, 3) := by decide +kernel
theorem dX10_targetAnswers_16 : decode cX10_targetAnswers 16 = .ok (.iconst 3, 1) := by decide +kernel
theorem dX10_targetAnswers_17 : decode cX10_targetAnswers 17 = .ok (.iload_n 2, 1) := by decide +kernel
theorem dX10_targetAnswers_18 : decode cX10_targetAnswers 18 = .ok (.imul, 1) := by decide +kernel
theorem dX10_targetAnswers_19 : decode cX10_targetAnswers 19 = .ok (.iconst 1, 1) := by decide +kernel
theorem dX10_targetAnswers_20 : decode cX10_targetAnswers 20 = .ok (.iadd, 1) := by decide +kernel
theorem dX10_targetAnswers_21 : decode cX10_targetAnswers 21 = .ok (.iaload, 1) := by decide +kernel
theorem dX10_targetAnswers_22 : decode cX10_targetAnswers 22 = .ok (.aload_n 0, 1) := by decide +kernel
theorem dX10_targetAnswers_23 : decode cX10_targetAnswers 23 = .ok (.getfield 13, 3) := by decide +kernel
theorem dX10_targetAnswers_26 : decode cX10_targetAnswers 26 = .ok (.iconst 3, 1) := by decide +kernel
theorem dX10_targetAnswers_27 : decode cX10_targetAnswers 27 = .ok (.iload_n 2, 1) := by decide +kernel
theorem dX10_targetAnswers_28 : decode cX10_targetAnswers 28 = .ok (.imul, 1) := by decide +kernel
theorem dX10_targetAnswers_29 : decode cX10_targetAnswers 29 = .ok (.iconst 2, 1) := by decide +kernel
theorem dX10_targetAnswers_30 : decode cX10_targetAnswers 30 = .ok (.iadd, 1) := by decide +kernel
theorem dX10_targetAnswers_31 : decode cX10_targetAnswers 31 = .ok (.iaload, 1) := by decide +kernel
theorem dX10_targetAnswers_32 : decode cX10_targetAnswers 32 = .ok (.invokevirtual 202, 3) := by decide +kernel
theorem dX10_targetAnswers_35 : decode cX10_targetAnswers 35 = .ok (.ireturn, 1) := by decide +kernel
theorem dX10_leafOf_0 : decode cX10_leafOf 0 = .ok (.iconst 0, 1) := by decide +kernel
theorem dX10_leafOf_1 : decode cX10_leafOf 1 = .ok (.istore_n 3, 1) := by decide +kernel
theorem dX10_leafOf_2 : decode cX10_leafOf 2 = .ok (.aload_n 0, 1) := by decide +kernel
theorem dX10_leafOf_3 : decode cX10_leafOf 3 = .ok (.getfield 19, 3) := by decide +kernel
theorem dX10_leafOf_6 : decode cX10_leafOf 6 = .ok (.iload_n 3, 1) := by decide +kernel
theorem dX10_leafOf_7 : decode cX10_leafOf 7 = .ok (.iaload, 1) := by decide +kernel
theorem dX10_leafOf_8 : decode cX10_leafOf 8 = .ok (.ifCond .eq 48, 3) := by decide +kernel
theorem dX10_leafOf_11 : decode cX10_leafOf 11 = .ok (.iload_n 1, 1) := by decide +kernel
theorem dX10_leafOf_12 : decode cX10_leafOf 12 = .ok (.ifCond .eq 12, 3) := by decide +kernel
theorem dX10_leafOf_15 : decode cX10_leafOf 15 = .ok (.aload_n 0, 1) := by decide +kernel
theorem dX10_leafOf_16 : decode cX10_leafOf 16 = .ok (.iload_n 3, 1) := by decide +kernel
theorem dX10_leafOf_17 : decode cX10_leafOf 17 = .ok (.iload_n 2, 1) := by decide +kernel
theorem dX10_leafOf_18 : decode cX10_leafOf 18 = .ok (.invokevirtual 206, 3) := by decide +kernel
theorem dX10_leafOf_21 : decode cX10_leafOf 21 = .ok (.goto 9, 3) := by decide +kernel
theorem dX10_leafOf_24 : decode cX10_leafOf 24 = .ok (.aload_n 0, 1) := by decide +kernel
theorem dX10_leafOf_25 : decode cX10_leafOf 25 = .ok (.iload_n 3, 1) := by decide +kernel
theorem dX10_leafOf_26 : decode cX10_leafOf 26 = .ok (.iload_n 2, 1) := by decide +kernel
theorem dX10_leafOf_27 : decode cX10_leafOf 27 = .ok (.invokevirtual 210, 3) := by decide +kernel
theorem dX10_leafOf_30 : decode cX10_leafOf 30 = .ok (.istore 4, 2) := by decide +kernel
theorem dX10_leafOf_32 : decode cX10_leafOf 32 = .ok (.iload 4, 2) := by decide +kernel
theorem dX10_leafOf_34 : decode cX10_leafOf 34 = .ok (.ifCond .eq 12, 3) := by decide +kernel
theorem dX10_leafOf_37 : decode cX10_leafOf 37 = .ok (.aload_n 0, 1) := by decide +kernel
theorem dX10_leafOf_38 : decode cX10_leafOf 38 = .ok (.getfield 25, 3) := by decide +kernel
theorem dX10_leafOf_41 : decode cX10_leafOf 41 = .ok (.iload_n 3, 1) := by decide +kernel
theorem dX10_leafOf_42 : decode cX10_leafOf 42 = .ok (.iaload, 1) := by decide +kernel
theorem dX10_leafOf_43 : decode cX10_leafOf 43 = .ok (.goto 9, 3) := by decide +kernel
theorem dX10_leafOf_46 : decode cX10_leafOf 46 = .ok (.aload_n 0, 1) := by decide +kernel
theorem dX10_leafOf_47 : decode cX10_leafOf 47 = .ok (.getfield 28, 3) := by decide +kernel
theorem dX10_leafOf_50 : decode cX10_leafOf 50 = .ok (.iload_n 3, 1) := by decide +kernel
theorem dX10_leafOf_51 : decode cX10_leafOf 51 = .ok (.iaload, 1) := by decide +kernel
theorem dX10_leafOf_52 : decode cX10_leafOf 52 = .ok (.istore_n 3, 1) := by decide +kernel
theorem dX10_leafOf_53 : decode cX10_leafOf 53 = .ok (.goto (-51), 3) := by decide +kernel
theorem dX10_leafOf_56 : decode cX10_leafOf 56 = .ok (.aload_n 0, 1) := by decide +kernel
theorem dX10_leafOf_57 : decode cX10_leafOf 57 = .ok (.getfield 22, 3) := by decide +kernel
theorem dX10_leafOf_60 : decode cX10_leafOf 60 = .ok (.iload_n 3, 1) := by decide +kernel
theorem dX10_leafOf_61 : decode cX10_leafOf 61 = .ok (.iaload, 1) := by decide +kernel
theorem dX10_leafOf_62 : decode cX10_leafOf 62 = .ok (.ireturn, 1) := by decide +kernel
theorem dX10_emptyLeaves_0 : decode cX10_emptyLeaves 0 = .ok (.iconst 0, 1) := by decide +kernel
theorem dX10_emptyLeaves_1 : decode cX10_emptyLeaves 1 = .ok (.istore_n 1, 1) := by decide +kernel
theorem dX10_emptyLeaves_2 : decode cX10_emptyLeaves 2 = .ok (.iconst 0, 1) := by decide +kernel
theorem dX10_emptyLeaves_3 : decode cX10_emptyLeaves 3 = .ok (.istore_n 2, 1) := by decide +kernel
theorem dX10_emptyLeaves_4 : decode cX10_emptyLeaves 4 = .ok (.iload_n 2, 1) := by decide +kernel
theorem dX10_emptyLeaves_5 : decode cX10_emptyLeaves 5 = .ok (.aload_n 0, 1) := by decide +kernel
theorem dX10_emptyLeaves_6 : decode cX10_emptyLeaves 6 = .ok (.getfield 31, 3) := by decide +kernel
theorem dX10_emptyLeaves_9 : decode cX10_emptyLeaves 9 = .ok (.if_icmp .ge 62, 3) := by decide +kernel
theorem dX10_emptyLeaves_12 : decode cX10_emptyLeaves 12 = .ok (.iconst 0, 1) := by decide +kernel
theorem dX10_emptyLeaves_13 : decode cX10_emptyLeaves 13 = .ok (.istore_n 3, 1) := by decide +kernel
theorem dX10_emptyLeaves_14 : decode cX10_emptyLeaves 14 = .ok (.iconst 0, 1) := by decide +kernel
theorem dX10_emptyLeaves_15 : decode cX10_emptyLeaves 15 = .ok (.istore 4, 2) := by decide +kernel
theorem dX10_emptyLeaves_17 : decode cX10_emptyLeaves 17 = .ok (.iload 4, 2) := by decide +kernel
theorem dX10_emptyLeaves_19 : decode cX10_emptyLeaves 19 = .ok (.aload_n 0, 1) := by decide +kernel
theorem dX10_emptyLeaves_20 : decode cX10_emptyLeaves 20 = .ok (.getfield 86, 3) := by decide +kernel
theorem dX10_emptyLeaves_23 : decode cX10_emptyLeaves 23 = .ok (.if_icmp .ge 30, 3) := by decide +kernel
theorem dX10_emptyLeaves_26 : decode cX10_emptyLeaves 26 = .ok (.iload_n 3, 1) := by decide +kernel
theorem dX10_emptyLeaves_27 : decode cX10_emptyLeaves 27 = .ok (.ifCond .ne 14, 3) := by decide +kernel
theorem dX10_emptyLeaves_30 : decode cX10_emptyLeaves 30 = .ok (.aload_n 0, 1) := by decide +kernel
theorem dX10_emptyLeaves_31 : decode cX10_emptyLeaves 31 = .ok (.iconst 1, 1) := by decide +kernel
theorem dX10_emptyLeaves_32 : decode cX10_emptyLeaves 32 = .ok (.iload 4, 2) := by decide +kernel
theorem dX10_emptyLeaves_34 : decode cX10_emptyLeaves 34 = .ok (.invokevirtual 213, 3) := by decide +kernel
theorem dX10_emptyLeaves_37 : decode cX10_emptyLeaves 37 = .ok (.iload_n 2, 1) := by decide +kernel
theorem dX10_emptyLeaves_38 : decode cX10_emptyLeaves 38 = .ok (.if_icmp .ne 7, 3) := by decide +kernel
theorem dX10_emptyLeaves_41 : decode cX10_emptyLeaves 41 = .ok (.iconst 1, 1) := by decide +kernel
theorem dX10_emptyLeaves_42 : decode cX10_emptyLeaves 42 = .ok (.goto 4, 3) := by decide +kernel
theorem dX10_emptyLeaves_45 : decode cX10_emptyLeaves 45 = .ok (.iconst 0, 1) := by decide +kernel
theorem dX10_emptyLeaves_46 : decode cX10_emptyLeaves 46 = .ok (.istore_n 3, 1) := by decide +kernel
theorem dX10_emptyLeaves_47 : decode cX10_emptyLeaves 47 = .ok (.iinc 4 1, 3) := by decide +kernel
theorem dX10_emptyLeaves_50 : decode cX10_emptyLeaves 50 = .ok (.goto (-33), 3) := by decide +kernel
theorem dX10_emptyLeaves_53 : decode cX10_emptyLeaves 53 = .ok (.iload_n 1, 1) := by decide +kernel
theorem dX10_emptyLeaves_54 : decode cX10_emptyLeaves 54 = .ok (.iload_n 3, 1) := by decide +kernel
theorem dX10_emptyLeaves_55 : decode cX10_emptyLeaves 55 = .ok (.ifCond .eq 7, 3) := by decide +kernel
theorem dX10_emptyLeaves_58 : decode cX10_emptyLeaves 58 = .ok (.iconst 0, 1) := by decide +kernel
theorem dX10_emptyLeaves_59 : decode cX10_emptyLeaves 59 = .ok (.goto 4, 3) := by decide +kernel
theorem dX10_emptyLeaves_62 : decode cX10_emptyLeaves 62 = .ok (.iconst 1, 1) := by decide +kernel
theorem dX10_emptyLeaves_63 : decode cX10_emptyLeaves 63 = .ok (.iadd, 1) := by decide +kernel
theorem dX10_emptyLeaves_64 : decode cX10_emptyLeaves 64 = .ok (.istore_n 1, 1) := by decide +kernel
theorem dX10_emptyLeaves_65 : decode cX10_emptyLeaves 65 = .ok (.iinc 2 1, 3) := by decide +kernel
theorem dX10_emptyLeaves_68 : decode cX10_emptyLeaves 68 = .ok (.goto (-64), 3) := by decide +kernel
theorem dX10_emptyLeaves_71 : decode cX10_emptyLeaves 71 = .ok (.iload_n 1, 1) := by decide +kernel
end
section
theorem dX10_emptyLeaves_72 : decode cX10_emptyLeaves 72 = .ok (.ireturn, 1) := by decide +kernel
theorem dX10_tree_0 : decode cX10_tree 0 = .ok (.iload_n 1, 1) := by decide +kernel
theorem dX10_tree_1 : decode cX10_tree 1 = .ok (.i2l, 1) := by decide +kernel
theorem dX10_tree_2 : decode cX10_tree 2 = .ok (.lconst 0, 1) := by decide +kernel
theorem dX10_tree_3 : decode cX10_tree 3 = .ok (.ldc2_w 217, 3) := by decide +kernel
theorem dX10_tree_6 : decode cX10_tree 6 = .ok (.invokestatic 89, 3) := by decide +kernel
theorem dX10_tree_9 : decode cX10_tree 9 = .ok (.ifCond .ne 10, 3) := by decide +kernel
theorem dX10_tree_12 : decode cX10_tree 12 = .ok (.aload_n 0, 1) := by decide +kernel
theorem dX10_tree_13 : decode cX10_tree 13 = .ok (.bipush (-2), 2) := by decide +kernel
theorem dX10_tree_15 : decode cX10_tree 15 = .ok (.invokevirtual 105, 3) := by decide +kernel
theorem dX10_tree_18 : decode cX10_tree 18 = .ok (.ireturn, 1) := by decide +kernel
theorem dX10_tree_19 : decode cX10_tree 19 = .ok (.iload_n 1, 1) := by decide +kernel
theorem dX10_tree_20 : decode cX10_tree 20 = .ok (.ifCond .ne 10, 3) := by decide +kernel
theorem dX10_tree_23 : decode cX10_tree 23 = .ok (.aload_n 0, 1) := by decide +kernel
theorem dX10_tree_24 : decode cX10_tree 24 = .ok (.getfield 31, 3) := by decide +kernel
theorem dX10_tree_27 : decode cX10_tree 27 = .ok (.goto 19, 3) := by decide +kernel
theorem dX10_tree_30 : decode cX10_tree 30 = .ok (.iload_n 1, 1) := by decide +kernel
theorem dX10_tree_31 : decode cX10_tree 31 = .ok (.iconst 1, 1) := by decide +kernel
theorem dX10_tree_32 : decode cX10_tree 32 = .ok (.if_icmp .ne 10, 3) := by decide +kernel
theorem dX10_tree_35 : decode cX10_tree 35 = .ok (.aload_n 0, 1) := by decide +kernel
theorem dX10_tree_36 : decode cX10_tree 36 = .ok (.getfield 190, 3) := by decide +kernel
theorem dX10_tree_39 : decode cX10_tree 39 = .ok (.goto 7, 3) := by decide +kernel
theorem dX10_tree_42 : decode cX10_tree 42 = .ok (.aload_n 0, 1) := by decide +kernel
theorem dX10_tree_43 : decode cX10_tree 43 = .ok (.invokevirtual 219, 3) := by decide +kernel
theorem dX10_tree_46 : decode cX10_tree 46 = .ok (.ireturn, 1) := by decide +kernel
theorem dX10_leaf_0 : decode cX10_leaf 0 = .ok (.iload_n 1, 1) := by decide +kernel
theorem dX10_leaf_1 : decode cX10_leaf 1 = .ok (.i2l, 1) := by decide +kernel
theorem dX10_leaf_2 : decode cX10_leaf 2 = .ok (.lconst 0, 1) := by decide +kernel
theorem dX10_leaf_3 : decode cX10_leaf 3 = .ok (.lconst 1, 1) := by decide +kernel
theorem dX10_leaf_4 : decode cX10_leaf 4 = .ok (.invokestatic 89, 3) := by decide +kernel
theorem dX10_leaf_7 : decode cX10_leaf 7 = .ok (.ifCond .eq 26, 3) := by decide +kernel
theorem dX10_leaf_10 : decode cX10_leaf 10 = .ok (.iload_n 1, 1) := by decide +kernel
theorem dX10_leaf_11 : decode cX10_leaf 11 = .ok (.ifCond .ne 14, 3) := by decide +kernel
theorem dX10_leaf_14 : decode cX10_leaf 14 = .ok (.aload_n 0, 1) := by decide +kernel
theorem dX10_leaf_15 : decode cX10_leaf 15 = .ok (.iload_n 2, 1) := by decide +kernel
theorem dX10_leaf_16 : decode cX10_leaf 16 = .ok (.invokevirtual 137, 3) := by decide +kernel
theorem dX10_leaf_19 : decode cX10_leaf 19 = .ok (.ifCond .ne 21, 3) := by decide +kernel
theorem dX10_leaf_22 : decode cX10_leaf 22 = .ok (.goto 11, 3) := by decide +kernel
theorem dX10_leaf_25 : decode cX10_leaf 25 = .ok (.aload_n 0, 1) := by decide +kernel
theorem dX10_leaf_26 : decode cX10_leaf 26 = .ok (.iload_n 2, 1) := by decide +kernel
theorem dX10_leaf_27 : decode cX10_leaf 27 = .ok (.invokevirtual 193, 3) := by decide +kernel
theorem dX10_leaf_30 : decode cX10_leaf 30 = .ok (.ifCond .ne 10, 3) := by decide +kernel
theorem dX10_leaf_33 : decode cX10_leaf 33 = .ok (.aload_n 0, 1) := by decide +kernel
theorem dX10_leaf_34 : decode cX10_leaf 34 = .ok (.bipush (-2), 2) := by decide +kernel
theorem dX10_leaf_36 : decode cX10_leaf 36 = .ok (.invokevirtual 105, 3) := by decide +kernel
theorem dX10_leaf_39 : decode cX10_leaf 39 = .ok (.ireturn, 1) := by decide +kernel
theorem dX10_leaf_40 : decode cX10_leaf 40 = .ok (.aload_n 0, 1) := by decide +kernel
theorem dX10_leaf_41 : decode cX10_leaf 41 = .ok (.iload_n 1, 1) := by decide +kernel
theorem dX10_leaf_42 : decode cX10_leaf 42 = .ok (.ifCond .ne 7, 3) := by decide +kernel
theorem dX10_leaf_45 : decode cX10_leaf 45 = .ok (.iconst 1, 1) := by decide +kernel
theorem dX10_leaf_46 : decode cX10_leaf 46 = .ok (.goto 4, 3) := by decide +kernel
theorem dX10_leaf_49 : decode cX10_leaf 49 = .ok (.iconst 0, 1) := by decide +kernel
theorem dX10_leaf_50 : decode cX10_leaf 50 = .ok (.iload_n 2, 1) := by decide +kernel
theorem dX10_leaf_51 : decode cX10_leaf 51 = .ok (.invokevirtual 213, 3) := by decide +kernel
theorem dX10_leaf_54 : decode cX10_leaf 54 = .ok (.ireturn, 1) := by decide +kernel
theorem dX10_wayLong_0 : decode cX10_wayLong 0 = .ok (.iconst 0, 1) := by decide +kernel
theorem dX10_wayLong_1 : decode cX10_wayLong 1 = .ok (.istore_n 2, 1) := by decide +kernel
theorem dX10_wayLong_2 : decode cX10_wayLong 2 = .ok (.iconst 0, 1) := by decide +kernel
theorem dX10_wayLong_3 : decode cX10_wayLong 3 = .ok (.istore_n 3, 1) := by decide +kernel
theorem dX10_wayLong_4 : decode cX10_wayLong 4 = .ok (.aload_n 0, 1) := by decide +kernel
theorem dX10_wayLong_5 : decode cX10_wayLong 5 = .ok (.getfield 19, 3) := by decide +kernel
theorem dX10_wayLong_8 : decode cX10_wayLong 8 = .ok (.iload_n 2, 1) := by decide +kernel
theorem dX10_wayLong_9 : decode cX10_wayLong 9 = .ok (.iaload, 1) := by decide +kernel
theorem dX10_wayLong_10 : decode cX10_wayLong 10 = .ok (.ifCond .eq 34, 3) := by decide +kernel
theorem dX10_wayLong_13 : decode cX10_wayLong 13 = .ok (.aload_n 0, 1) := by decide +kernel
theorem dX10_wayLong_14 : decode cX10_wayLong 14 = .ok (.iload_n 2, 1) := by decide +kernel
theorem dX10_wayLong_15 : decode cX10_wayLong 15 = .ok (.iload_n 1, 1) := by decide +kernel
theorem dX10_wayLong_16 : decode cX10_wayLong 16 = .ok (.invokevirtual 210, 3) := by decide +kernel
theorem dX10_wayLong_19 : decode cX10_wayLong 19 = .ok (.ifCond .eq 12, 3) := by decide +kernel
theorem dX10_wayLong_22 : decode cX10_wayLong 22 = .ok (.aload_n 0, 1) := by decide +kernel
theorem dX10_wayLong_23 : decode cX10_wayLong 23 = .ok (.getfield 25, 3) := by decide +kernel
theorem dX10_wayLong_26 : decode cX10_wayLong 26 = .ok (.iload_n 2, 1) := by decide +kernel
theorem dX10_wayLong_27 : decode cX10_wayLong 27 = .ok (.iaload, 1) := by decide +kernel
theorem dX10_wayLong_28 : decode cX10_wayLong 28 = .ok (.goto 9, 3) := by decide +kernel
theorem dX10_wayLong_31 : decode cX10_wayLong 31 = .ok (.aload_n 0, 1) := by decide +kernel
theorem dX10_wayLong_32 : decode cX10_wayLong 32 = .ok (.getfield 28, 3) := by decide +kernel
theorem dX10_wayLong_35 : decode cX10_wayLong 35 = .ok (.iload_n 2, 1) := by decide +kernel
theorem dX10_wayLong_36 : decode cX10_wayLong 36 = .ok (.iaload, 1) := by decide +kernel
theorem dX10_wayLong_37 : decode cX10_wayLong 37 = .ok (.istore_n 2, 1) := by decide +kernel
theorem dX10_wayLong_38 : decode cX10_wayLong 38 = .ok (.iinc 3 1, 3) := by decide +kernel
theorem dX10_wayLong_41 : decode cX10_wayLong 41 = .ok (.goto (-37), 3) := by decide +kernel
theorem dX10_wayLong_44 : decode cX10_wayLong 44 = .ok (.iload_n 3, 1) := by decide +kernel
theorem dX10_wayLong_45 : decode cX10_wayLong 45 = .ok (.ireturn, 1) := by decide +kernel
theorem dX10_goesAlong_0 : decode cX10_goesAlong 0 = .ok (.iconst 0, 1) := by decide +kernel
theorem dX10_goesAlong_1 : decode cX10_goesAlong 1 = .ok (.istore_n 3, 1) := by decide +kernel
theorem dX10_goesAlong_2 : decode cX10_goesAlong 2 = .ok (.iconst 0, 1) := by decide +kernel
theorem dX10_goesAlong_3 : decode cX10_goesAlong 3 = .ok (.istore 4, 2) := by decide +kernel
theorem dX10_goesAlong_5 : decode cX10_goesAlong 5 = .ok (.aload_n 0, 1) := by decide +kernel
theorem dX10_goesAlong_6 : decode cX10_goesAlong 6 = .ok (.getfield 19, 3) := by decide +kernel
theorem dX10_goesAlong_9 : decode cX10_goesAlong 9 = .ok (.iload_n 3, 1) := by decide +kernel
theorem dX10_goesAlong_10 : decode cX10_goesAlong 10 = .ok (.iaload, 1) := by decide +kernel
theorem dX10_goesAlong_11 : decode cX10_goesAlong 11 = .ok (.ifCond .eq 49, 3) := by decide +kernel
theorem dX10_goesAlong_14 : decode cX10_goesAlong 14 = .ok (.aload_n 0, 1) := by decide +kernel
theorem dX10_goesAlong_15 : decode cX10_goesAlong 15 = .ok (.iload_n 3, 1) := by decide +kernel
theorem dX10_goesAlong_16 : decode cX10_goesAlong 16 = .ok (.iload_n 1, 1) := by decide +kernel
theorem dX10_goesAlong_17 : decode cX10_goesAlong 17 = .ok (.invokevirtual 206, 3) := by decide +kernel
theorem dX10_goesAlong_20 : decode cX10_goesAlong 20 = .ok (.aload_n 0, 1) := by decide +kernel
theorem dX10_goesAlong_21 : decode cX10_goesAlong 21 = .ok (.iload_n 3, 1) := by decide +kernel
theorem dX10_goesAlong_22 : decode cX10_goesAlong 22 = .ok (.iload_n 2, 1) := by decide +kernel
theorem dX10_goesAlong_23 : decode cX10_goesAlong 23 = .ok (.invokevirtual 210, 3) := by decide +kernel
theorem dX10_goesAlong_26 : decode cX10_goesAlong 26 = .ok (.if_icmp .ne 34, 3) := by decide +kernel
theorem dX10_goesAlong_29 : decode cX10_goesAlong 29 = .ok (.aload_n 0, 1) := by decide +kernel
theorem dX10_goesAlong_30 : decode cX10_goesAlong 30 = .ok (.iload_n 3, 1) := by decide +kernel
theorem dX10_goesAlong_31 : decode cX10_goesAlong 31 = .ok (.iload_n 2, 1) := by decide +kernel
theorem dX10_goesAlong_32 : decode cX10_goesAlong 32 = .ok (.invokevirtual 210, 3) := by decide +kernel
theorem dX10_goesAlong_35 : decode cX10_goesAlong 35 = .ok (.ifCond .eq 12, 3) := by decide +kernel
theorem dX10_goesAlong_38 : decode cX10_goesAlong 38 = .ok (.aload_n 0, 1) := by decide +kernel
theorem dX10_goesAlong_39 : decode cX10_goesAlong 39 = .ok (.getfield 25, 3) := by decide +kernel
theorem dX10_goesAlong_42 : decode cX10_goesAlong 42 = .ok (.iload_n 3, 1) := by decide +kernel
theorem dX10_goesAlong_43 : decode cX10_goesAlong 43 = .ok (.iaload, 1) := by decide +kernel
theorem dX10_goesAlong_44 : decode cX10_goesAlong 44 = .ok (.goto 9, 3) := by decide +kernel
theorem dX10_goesAlong_47 : decode cX10_goesAlong 47 = .ok (.aload_n 0, 1) := by decide +kernel
theorem dX10_goesAlong_48 : decode cX10_goesAlong 48 = .ok (.getfield 28, 3) := by decide +kernel
theorem dX10_goesAlong_51 : decode cX10_goesAlong 51 = .ok (.iload_n 3, 1) := by decide +kernel
theorem dX10_goesAlong_52 : decode cX10_goesAlong 52 = .ok (.iaload, 1) := by decide +kernel
theorem dX10_goesAlong_53 : decode cX10_goesAlong 53 = .ok (.istore_n 3, 1) := by decide +kernel
theorem dX10_goesAlong_54 : decode cX10_goesAlong 54 = .ok (.iinc 4 1, 3) := by decide +kernel
theorem dX10_goesAlong_57 : decode cX10_goesAlong 57 = .ok (.goto (-52), 3) := by decide +kernel
theorem dX10_goesAlong_60 : decode cX10_goesAlong 60 = .ok (.iload 4, 2) := by decide +kernel
theorem dX10_goesAlong_62 : decode cX10_goesAlong 62 = .ok (.ireturn, 1) := by decide +kernel
theorem dX10_chooses_0 : decode cX10_chooses 0 = .ok (.aload_n 0, 1) := by decide +kernel
theorem dX10_chooses_1 : decode cX10_chooses 1 = .ok (.getfield 13, 3) := by decide +kernel
theorem dX10_chooses_4 : decode cX10_chooses 4 = .ok (.iconst 3, 1) := by decide +kernel
theorem dX10_chooses_5 : decode cX10_chooses 5 = .ok (.iload_n 1, 1) := by decide +kernel
theorem dX10_chooses_6 : decode cX10_chooses 6 = .ok (.imul, 1) := by decide +kernel
theorem dX10_chooses_7 : decode cX10_chooses 7 = .ok (.iaload, 1) := by decide +kernel
theorem dX10_chooses_8 : decode cX10_chooses 8 = .ok (.istore_n 2, 1) := by decide +kernel
theorem dX10_chooses_9 : decode cX10_chooses 9 = .ok (.iconst 0, 1) := by decide +kernel
theorem dX10_chooses_10 : decode cX10_chooses 10 = .ok (.istore_n 3, 1) := by decide +kernel
theorem dX10_chooses_11 : decode cX10_chooses 11 = .ok (.aload_n 0, 1) := by decide +kernel
theorem dX10_chooses_12 : decode cX10_chooses 12 = .ok (.iload_n 1, 1) := by decide +kernel
theorem dX10_chooses_13 : decode cX10_chooses 13 = .ok (.invokevirtual 222, 3) := by decide +kernel
theorem dX10_chooses_16 : decode cX10_chooses 16 = .ok (.istore 4, 2) := by decide +kernel
theorem dX10_chooses_18 : decode cX10_chooses 18 = .ok (.aload_n 0, 1) := by decide +kernel
theorem dX10_chooses_19 : decode cX10_chooses 19 = .ok (.iconst 0, 1) := by decide +kernel
theorem dX10_chooses_20 : decode cX10_chooses 20 = .ok (.putfield 225, 3) := by decide +kernel
theorem dX10_chooses_23 : decode cX10_chooses 23 = .ok (.aload_n 0, 1) := by decide +kernel
theorem dX10_chooses_24 : decode cX10_chooses 24 = .ok (.iconst 0, 1) := by decide +kernel
theorem dX10_chooses_25 : decode cX10_chooses 25 = .ok (.putfield 228, 3) := by decide +kernel
theorem dX10_chooses_28 : decode cX10_chooses 28 = .ok (.iload_n 3, 1) := by decide +kernel
theorem dX10_chooses_29 : decode cX10_chooses 29 = .ok (.iload_n 2, 1) := by decide +kernel
theorem dX10_chooses_30 : decode cX10_chooses 30 = .ok (.ishr, 1) := by decide +kernel
theorem dX10_chooses_31 : decode cX10_chooses 31 = .ok (.iconst 1, 1) := by decide +kernel
theorem dX10_chooses_32 : decode cX10_chooses 32 = .ok (.iand, 1) := by decide +kernel
theorem dX10_chooses_33 : decode cX10_chooses 33 = .ok (.ifCond .ne 224, 3) := by decide +kernel
theorem dX10_chooses_36 : decode cX10_chooses 36 = .ok (.iconst (-1), 1) := by decide +kernel
theorem dX10_chooses_37 : decode cX10_chooses 37 = .ok (.istore 5, 2) := by decide +kernel
theorem dX10_chooses_39 : decode cX10_chooses 39 = .ok (.iload_n 3, 1) := by decide +kernel
theorem dX10_chooses_40 : decode cX10_chooses 40 = .ok (.iconst 1, 1) := by decide +kernel
theorem dX10_chooses_41 : decode cX10_chooses 41 = .ok (.iload_n 2, 1) := by decide +kernel
theorem dX10_chooses_42 : decode cX10_chooses 42 = .ok (.ishl, 1) := by decide +kernel
theorem dX10_chooses_43 : decode cX10_chooses 43 = .ok (.ior, 1) := by decide +kernel
theorem dX10_chooses_44 : decode cX10_chooses 44 = .ok (.istore_n 3, 1) := by decide +kernel
theorem dX10_chooses_45 : decode cX10_chooses 45 = .ok (.aload_n 0, 1) := by decide +kernel
theorem dX10_chooses_46 : decode cX10_chooses 46 = .ok (.dup, 1) := by decide +kernel
theorem dX10_chooses_47 : decode cX10_chooses 47 = .ok (.getfield 228, 3) := by decide +kernel
theorem dX10_chooses_50 : decode cX10_chooses 50 = .ok (.iconst 1, 1) := by decide +kernel
theorem dX10_chooses_51 : decode cX10_chooses 51 = .ok (.iadd, 1) := by decide +kernel
theorem dX10_chooses_52 : decode cX10_chooses 52 = .ok (.putfield 228, 3) := by decide +kernel
theorem dX10_chooses_55 : decode cX10_chooses 55 = .ok (.iconst 0, 1) := by decide +kernel
theorem dX10_chooses_56 : decode cX10_chooses 56 = .ok (.istore 6, 2) := by decide +kernel
theorem dX10_chooses_58 : decode cX10_chooses 58 = .ok (.iload 6, 2) := by decide +kernel
theorem dX10_chooses_60 : decode cX10_chooses 60 = .ok (.aload_n 0, 1) := by decide +kernel
theorem dX10_chooses_61 : decode cX10_chooses 61 = .ok (.getfield 86, 3) := by decide +kernel
theorem dX10_chooses_64 : decode cX10_chooses 64 = .ok (.if_icmp .ge 70, 3) := by decide +kernel
theorem dX10_chooses_67 : decode cX10_chooses 67 = .ok (.iload 6, 2) := by decide +kernel
theorem dX10_chooses_69 : decode cX10_chooses 69 = .ok (.aload_n 0, 1) := by decide +kernel
theorem dX10_chooses_70 : decode cX10_chooses 70 = .ok (.getfield 68, 3) := by decide +kernel
theorem dX10_chooses_73 : decode cX10_chooses 73 = .ok (.if_icmp .eq 18, 3) := by decide +kernel
theorem dX10_chooses_76 : decode cX10_chooses 76 = .ok (.aload_n 0, 1) := by decide +kernel
theorem dX10_chooses_77 : decode cX10_chooses 77 = .ok (.iload 6, 2) := by decide +kernel
theorem dX10_chooses_79 : decode cX10_chooses 79 = .ok (.iconst 0, 1) := by decide +kernel
theorem dX10_chooses_80 : decode cX10_chooses 80 = .ok (.invokevirtual 125, 3) := by decide +kernel
theorem dX10_chooses_83 : decode cX10_chooses 83 = .ok (.iload_n 2, 1) := by decide +kernel
theorem dX10_chooses_84 : decode cX10_chooses 84 = .ok (.if_icmp .ne 7, 3) := by decide +kernel
theorem dX10_chooses_87 : decode cX10_chooses 87 = .ok (.iconst 1, 1) := by decide +kernel
theorem dX10_chooses_88 : decode cX10_chooses 88 = .ok (.goto 4, 3) := by decide +kernel
theorem dX10_chooses_91 : decode cX10_chooses 91 = .ok (.iconst 0, 1) := by decide +kernel
theorem dX10_chooses_92 : decode cX10_chooses 92 = .ok (.istore 7, 2) := by decide +kernel
theorem dX10_chooses_94 : decode cX10_chooses 94 = .ok (.iload 7, 2) := by decide +kernel
theorem dX10_chooses_96 : decode cX10_chooses 96 = .ok (.ifCond .eq 13, 3) := by decide +kernel
theorem dX10_chooses_99 : decode cX10_chooses 99 = .ok (.aload_n 0, 1) := by decide +kernel
theorem dX10_chooses_100 : decode cX10_chooses 100 = .ok (.iload 6, 2) := by decide +kernel
theorem dX10_chooses_102 : decode cX10_chooses 102 = .ok (.iload_n 1, 1) := by decide +kernel
theorem dX10_chooses_103 : decode cX10_chooses 103 = .ok (.invokevirtual 231, 3) := by decide +kernel
theorem dX10_chooses_106 : decode cX10_chooses 106 = .ok (.goto 4, 3) := by decide +kernel
theorem dX10_chooses_109 : decode cX10_chooses 109 = .ok (.iconst (-1), 1) := by decide +kernel
theorem dX10_chooses_110 : decode cX10_chooses 110 = .ok (.istore 8, 2) := by decide +kernel
theorem dX10_chooses_112 : decode cX10_chooses 112 = .ok (.iload 8, 2) := by decide +kernel
theorem dX10_chooses_114 : decode cX10_chooses 114 = .ok (.iload 5, 2) := by decide +kernel
theorem dX10_chooses_116 : decode cX10_chooses 116 = .ok (.if_icmp .le 8, 3) := by decide +kernel
theorem dX10_chooses_119 : decode cX10_chooses 119 = .ok (.iload 8, 2) := by decide +kernel
theorem dX10_chooses_121 : decode cX10_chooses 121 = .ok (.goto 5, 3) := by decide +kernel
theorem dX10_chooses_124 : decode cX10_chooses 124 = .ok (.iload 5, 2) := by decide +kernel
theorem dX10_chooses_126 : decode cX10_chooses 126 = .ok (.istore 5, 2) := by decide +kernel
theorem dX10_chooses_128 : decode cX10_chooses 128 = .ok (.iinc 6 1, 3) := by decide +kernel
theorem dX10_chooses_131 : decode cX10_chooses 131 = .ok (.goto (-73), 3) := by decide +kernel
theorem dX10_chooses_134 : decode cX10_chooses 134 = .ok (.iload 5, 2) := by decide +kernel
theorem dX10_chooses_136 : decode cX10_chooses 136 = .ok (.iconst (-1), 1) := by decide +kernel
theorem dX10_chooses_137 : decode cX10_chooses 137 = .ok (.if_icmp .eq 97, 3) := by decide +kernel
theorem dX10_chooses_140 : decode cX10_chooses 140 = .ok (.iconst 0, 1) := by decide +kernel
theorem dX10_chooses_141 : decode cX10_chooses 141 = .ok (.istore 6, 2) := by decide +kernel
theorem dX10_chooses_143 : decode cX10_chooses 143 = .ok (.iconst 0, 1) := by decide +kernel
theorem dX10_chooses_144 : decode cX10_chooses 144 = .ok (.istore 7, 2) := by decide +kernel
theorem dX10_chooses_146 : decode cX10_chooses 146 = .ok (.iload 7, 2) := by decide +kernel
theorem dX10_chooses_148 : decode cX10_chooses 148 = .ok (.aload_n 0, 1) := by decide +kernel
theorem dX10_chooses_149 : decode cX10_chooses 149 = .ok (.getfield 86, 3) := by decide +kernel
theorem dX10_chooses_152 : decode cX10_chooses 152 = .ok (.if_icmp .ge 58, 3) := by decide +kernel
theorem dX10_chooses_155 : decode cX10_chooses 155 = .ok (.iload 7, 2) := by decide +kernel
theorem dX10_chooses_157 : decode cX10_chooses 157 = .ok (.aload_n 0, 1) := by decide +kernel
theorem dX10_chooses_158 : decode cX10_chooses 158 = .ok (.getfield 68, 3) := by decide +kernel
theorem dX10_chooses_161 : decode cX10_chooses 161 = .ok (.if_icmp .eq 43, 3) := by decide +kernel
theorem dX10_chooses_164 : decode cX10_chooses 164 = .ok (.aload_n 0, 1) := by decide +kernel
theorem dX10_chooses_165 : decode cX10_chooses 165 = .ok (.iload 7, 2) := by decide +kernel
theorem dX10_chooses_167 : decode cX10_chooses 167 = .ok (.iconst 0, 1) := by decide +kernel
theorem dX10_chooses_168 : decode cX10_chooses 168 = .ok (.invokevirtual 125, 3) := by decide +kernel
theorem dX10_chooses_171 : decode cX10_chooses 171 = .ok (.iload_n 2, 1) := by decide +kernel
theorem dX10_chooses_172 : decode cX10_chooses 172 = .ok (.if_icmp .ne 32, 3) := by decide +kernel
theorem dX10_chooses_175 : decode cX10_chooses 175 = .ok (.aload_n 0, 1) := by decide +kernel
theorem dX10_chooses_176 : decode cX10_chooses 176 = .ok (.iload 7, 2) := by decide +kernel
theorem dX10_chooses_178 : decode cX10_chooses 178 = .ok (.iload_n 1, 1) := by decide +kernel
theorem dX10_chooses_179 : decode cX10_chooses 179 = .ok (.invokevirtual 231, 3) := by decide +kernel
theorem dX10_chooses_182 : decode cX10_chooses 182 = .ok (.iload 5, 2) := by decide +kernel
theorem dX10_chooses_184 : decode cX10_chooses 184 = .ok (.if_icmp .ne 20, 3) := by decide +kernel
theorem dX10_chooses_187 : decode cX10_chooses 187 = .ok (.aload_n 0, 1) := by decide +kernel
theorem dX10_chooses_188 : decode cX10_chooses 188 = .ok (.getfield 62, 3) := by decide +kernel
theorem dX10_chooses_191 : decode cX10_chooses 191 = .ok (.bipush 40, 2) := by decide +kernel
theorem dX10_chooses_193 : decode cX10_chooses 193 = .ok (.iload_n 1, 1) := by decide +kernel
theorem dX10_chooses_194 : decode cX10_chooses 194 = .ok (.imul, 1) := by decide +kernel
theorem dX10_chooses_195 : decode cX10_chooses 195 = .ok (.iload 6, 2) := by decide +kernel
theorem dX10_chooses_197 : decode cX10_chooses 197 = .ok (.iadd, 1) := by decide +kernel
theorem dX10_chooses_198 : decode cX10_chooses 198 = .ok (.iload 7, 2) := by decide +kernel
theorem dX10_chooses_200 : decode cX10_chooses 200 = .ok (.iastore, 1) := by decide +kernel
theorem dX10_chooses_201 : decode cX10_chooses 201 = .ok (.iinc 6 1, 3) := by decide +kernel
theorem dX10_chooses_204 : decode cX10_chooses 204 = .ok (.iinc 7 1, 3) := by decide +kernel
theorem dX10_chooses_207 : decode cX10_chooses 207 = .ok (.goto (-61), 3) := by decide +kernel
theorem dX10_chooses_210 : decode cX10_chooses 210 = .ok (.aload_n 0, 1) := by decide +kernel
theorem dX10_chooses_211 : decode cX10_chooses 211 = .ok (.getfield 65, 3) := by decide +kernel
theorem dX10_chooses_214 : decode cX10_chooses 214 = .ok (.iload_n 1, 1) := by decide +kernel
theorem dX10_chooses_215 : decode cX10_chooses 215 = .ok (.iload 6, 2) := by decide +kernel
theorem dX10_chooses_217 : decode cX10_chooses 217 = .ok (.iastore, 1) := by decide +kernel
theorem dX10_chooses_218 : decode cX10_chooses 218 = .ok (.aload_n 0, 1) := by decide +kernel
theorem dX10_chooses_219 : decode cX10_chooses 219 = .ok (.dup, 1) := by decide +kernel
theorem dX10_chooses_220 : decode cX10_chooses 220 = .ok (.getfield 225, 3) := by decide +kernel
theorem dX10_chooses_223 : decode cX10_chooses 223 = .ok (.iload 4, 2) := by decide +kernel
theorem dX10_chooses_225 : decode cX10_chooses 225 = .ok (.iload 5, 2) := by decide +kernel
theorem dX10_chooses_227 : decode cX10_chooses 227 = .ok (.isub, 1) := by decide +kernel
theorem dX10_chooses_228 : decode cX10_chooses 228 = .ok (.iadd, 1) := by decide +kernel
theorem dX10_chooses_229 : decode cX10_chooses 229 = .ok (.putfield 225, 3) := by decide +kernel
theorem dX10_chooses_232 : decode cX10_chooses 232 = .ok (.iconst 1, 1) := by decide +kernel
theorem dX10_chooses_233 : decode cX10_chooses 233 = .ok (.ireturn, 1) := by decide +kernel
theorem dX10_chooses_234 : decode cX10_chooses 234 = .ok (.aload_n 0, 1) := by decide +kernel
theorem dX10_chooses_235 : decode cX10_chooses 235 = .ok (.dup, 1) := by decide +kernel
theorem dX10_chooses_236 : decode cX10_chooses 236 = .ok (.getfield 225, 3) := by decide +kernel
theorem dX10_chooses_239 : decode cX10_chooses 239 = .ok (.iload 4, 2) := by decide +kernel
theorem dX10_chooses_241 : decode cX10_chooses 241 = .ok (.iconst 1, 1) := by decide +kernel
theorem dX10_chooses_242 : decode cX10_chooses 242 = .ok (.iadd, 1) := by decide +kernel
theorem dX10_chooses_243 : decode cX10_chooses 243 = .ok (.iadd, 1) := by decide +kernel
theorem dX10_chooses_244 : decode cX10_chooses 244 = .ok (.putfield 225, 3) := by decide +kernel
theorem dX10_chooses_247 : decode cX10_chooses 247 = .ok (.aload_n 0, 1) := by decide +kernel
theorem dX10_chooses_248 : decode cX10_chooses 248 = .ok (.getfield 16, 3) := by decide +kernel
theorem dX10_chooses_251 : decode cX10_chooses 251 = .ok (.iload_n 2, 1) := by decide +kernel
theorem dX10_chooses_252 : decode cX10_chooses 252 = .ok (.iaload, 1) := by decide +kernel
theorem dX10_chooses_253 : decode cX10_chooses 253 = .ok (.istore_n 2, 1) := by decide +kernel
theorem dX10_chooses_254 : decode cX10_chooses 254 = .ok (.goto (-226), 3) := by decide +kernel
theorem dX10_chooses_257 : decode cX10_chooses 257 = .ok (.iconst 0, 1) := by decide +kernel
theorem dX10_chooses_258 : decode cX10_chooses 258 = .ok (.ireturn, 1) := by decide +kernel
theorem dX10_choice_0 : decode cX10_choice 0 = .ok (.iload_n 1, 1) := by decide +kernel
theorem dX10_choice_1 : decode cX10_choice 1 = .ok (.i2l, 1) := by decide +kernel
theorem dX10_choice_2 : decode cX10_choice 2 = .ok (.lconst 0, 1) := by decide +kernel
theorem dX10_choice_3 : decode cX10_choice 3 = .ok (.ldc2_w 234, 3) := by decide +kernel
theorem dX10_choice_6 : decode cX10_choice 6 = .ok (.invokestatic 89, 3) := by decide +kernel
theorem dX10_choice_9 : decode cX10_choice 9 = .ok (.ifCond .eq 23, 3) := by decide +kernel
theorem dX10_choice_12 : decode cX10_choice 12 = .ok (.aload_n 0, 1) := by decide +kernel
theorem dX10_choice_13 : decode cX10_choice 13 = .ok (.getfield 187, 3) := by decide +kernel
theorem dX10_choice_16 : decode cX10_choice 16 = .ok (.ifCond .le 11, 3) := by decide +kernel
theorem dX10_choice_19 : decode cX10_choice 19 = .ok (.iload_n 1, 1) := by decide +kernel
theorem dX10_choice_20 : decode cX10_choice 20 = .ok (.aload_n 0, 1) := by decide +kernel
theorem dX10_choice_21 : decode cX10_choice 21 = .ok (.getfield 187, 3) := by decide +kernel
theorem dX10_choice_24 : decode cX10_choice 24 = .ok (.if_icmp .ge 8, 3) := by decide +kernel
theorem dX10_choice_27 : decode cX10_choice 27 = .ok (.iload_n 2, 1) := by decide +kernel
theorem dX10_choice_28 : decode cX10_choice 28 = .ok (.iconst (-1), 1) := by decide +kernel
theorem dX10_choice_29 : decode cX10_choice 29 = .ok (.if_icmp .ge 10, 3) := by decide +kernel
theorem dX10_choice_32 : decode cX10_choice 32 = .ok (.aload_n 0, 1) := by decide +kernel
theorem dX10_choice_33 : decode cX10_choice 33 = .ok (.bipush (-10), 2) := by decide +kernel
theorem dX10_choice_35 : decode cX10_choice 35 = .ok (.invokevirtual 105, 3) := by decide +kernel
theorem dX10_choice_38 : decode cX10_choice 38 = .ok (.ireturn, 1) := by decide +kernel
theorem dX10_choice_39 : decode cX10_choice 39 = .ok (.aload_n 0, 1) := by decide +kernel
theorem dX10_choice_40 : decode cX10_choice 40 = .ok (.getfield 187, 3) := by decide +kernel
theorem dX10_choice_43 : decode cX10_choice 43 = .ok (.ifCond .eq 11, 3) := by decide +kernel
theorem dX10_choice_46 : decode cX10_choice 46 = .ok (.aload_n 0, 1) := by decide +kernel
theorem dX10_choice_47 : decode cX10_choice 47 = .ok (.iload_n 1, 1) := by decide +kernel
theorem dX10_choice_48 : decode cX10_choice 48 = .ok (.invokevirtual 236, 3) := by decide +kernel
theorem dX10_choice_51 : decode cX10_choice 51 = .ok (.ifCond .ne 8, 3) := by decide +kernel
theorem dX10_choice_54 : decode cX10_choice 54 = .ok (.aload_n 0, 1) := by decide +kernel
theorem dX10_choice_55 : decode cX10_choice 55 = .ok (.invokevirtual 239, 3) := by decide +kernel
theorem dX10_choice_58 : decode cX10_choice 58 = .ok (.ireturn, 1) := by decide +kernel
theorem dX10_choice_59 : decode cX10_choice 59 = .ok (.iload_n 2, 1) := by decide +kernel
theorem dX10_choice_60 : decode cX10_choice 60 = .ok (.iconst (-1), 1) := by decide +kernel
theorem dX10_choice_61 : decode cX10_choice 61 = .ok (.if_icmp .ne 12, 3) := by decide +kernel
theorem dX10_choice_64 : decode cX10_choice 64 = .ok (.aload_n 0, 1) := by decide +kernel
theorem dX10_choice_65 : decode cX10_choice 65 = .ok (.getfield 65, 3) := by decide +kernel
theorem dX10_choice_68 : decode cX10_choice 68 = .ok (.iload_n 1, 1) := by decide +kernel
theorem dX10_choice_69 : decode cX10_choice 69 = .ok (.iaload, 1) := by decide +kernel
theorem dX10_choice_70 : decode cX10_choice 70 = .ok (.goto 29, 3) := by decide +kernel
theorem dX10_choice_73 : decode cX10_choice 73 = .ok (.iload_n 2, 1) := by decide +kernel
theorem dX10_choice_74 : decode cX10_choice 74 = .ok (.aload_n 0, 1) := by decide +kernel
theorem dX10_choice_75 : decode cX10_choice 75 = .ok (.getfield 65, 3) := by decide +kernel
theorem dX10_choice_78 : decode cX10_choice 78 = .ok (.iload_n 1, 1) := by decide +kernel
theorem dX10_choice_79 : decode cX10_choice 79 = .ok (.iaload, 1) := by decide +kernel
theorem dX10_choice_80 : decode cX10_choice 80 = .ok (.if_icmp .ge 17, 3) := by decide +kernel
theorem dX10_choice_83 : decode cX10_choice 83 = .ok (.aload_n 0, 1) := by decide +kernel
theorem dX10_choice_84 : decode cX10_choice 84 = .ok (.getfield 62, 3) := by decide +kernel
theorem dX10_choice_87 : decode cX10_choice 87 = .ok (.bipush 40, 2) := by decide +kernel
theorem dX10_choice_89 : decode cX10_choice 89 = .ok (.iload_n 1, 1) := by decide +kernel
theorem dX10_choice_90 : decode cX10_choice 90 = .ok (.imul, 1) := by decide +kernel
theorem dX10_choice_91 : decode cX10_choice 91 = .ok (.iload_n 2, 1) := by decide +kernel
theorem dX10_choice_92 : decode cX10_choice 92 = .ok (.iadd, 1) := by decide +kernel
theorem dX10_choice_93 : decode cX10_choice 93 = .ok (.iaload, 1) := by decide +kernel
theorem dX10_choice_94 : decode cX10_choice 94 = .ok (.goto 5, 3) := by decide +kernel
theorem dX10_choice_97 : decode cX10_choice 97 = .ok (.bipush (-5), 2) := by decide +kernel
theorem dX10_choice_99 : decode cX10_choice 99 = .ok (.ireturn, 1) := by decide +kernel
theorem dX10_steps_0 : decode cX10_steps 0 = .ok (.aload_n 0, 1) := by decide +kernel
theorem dX10_steps_1 : decode cX10_steps 1 = .ok (.iload_n 1, 1) := by decide +kernel
theorem dX10_steps_2 : decode cX10_steps 2 = .ok (.invokevirtual 193, 3) := by decide +kernel
theorem dX10_steps_5 : decode cX10_steps 5 = .ok (.ifCond .ne 10, 3) := by decide +kernel
theorem dX10_steps_8 : decode cX10_steps 8 = .ok (.aload_n 0, 1) := by decide +kernel
theorem dX10_steps_9 : decode cX10_steps 9 = .ok (.bipush (-2), 2) := by decide +kernel
theorem dX10_steps_11 : decode cX10_steps 11 = .ok (.invokevirtual 105, 3) := by decide +kernel
theorem dX10_steps_14 : decode cX10_steps 14 = .ok (.ireturn, 1) := by decide +kernel
theorem dX10_steps_15 : decode cX10_steps 15 = .ok (.aload_n 0, 1) := by decide +kernel
theorem dX10_steps_16 : decode cX10_steps 16 = .ok (.iload_n 1, 1) := by decide +kernel
theorem dX10_steps_17 : decode cX10_steps 17 = .ok (.invokevirtual 236, 3) := by decide +kernel
theorem dX10_steps_20 : decode cX10_steps 20 = .ok (.ifCond .eq 10, 3) := by decide +kernel
theorem dX10_steps_23 : decode cX10_steps 23 = .ok (.aload_n 0, 1) := by decide +kernel
theorem dX10_steps_24 : decode cX10_steps 24 = .ok (.getfield 225, 3) := by decide +kernel
theorem dX10_steps_27 : decode cX10_steps 27 = .ok (.goto 4, 3) := by decide +kernel
theorem dX10_steps_30 : decode cX10_steps 30 = .ok (.iconst (-1), 1) := by decide +kernel
theorem dX10_steps_31 : decode cX10_steps 31 = .ok (.ireturn, 1) := by decide +kernel
theorem dX10_tried_0 : decode cX10_tried 0 = .ok (.aload_n 0, 1) := by decide +kernel
theorem dX10_tried_1 : decode cX10_tried 1 = .ok (.iload_n 1, 1) := by decide +kernel
theorem dX10_tried_2 : decode cX10_tried 2 = .ok (.invokevirtual 193, 3) := by decide +kernel
theorem dX10_tried_5 : decode cX10_tried 5 = .ok (.ifCond .ne 10, 3) := by decide +kernel
theorem dX10_tried_8 : decode cX10_tried 8 = .ok (.aload_n 0, 1) := by decide +kernel
theorem dX10_tried_9 : decode cX10_tried 9 = .ok (.bipush (-2), 2) := by decide +kernel
theorem dX10_tried_11 : decode cX10_tried 11 = .ok (.invokevirtual 105, 3) := by decide +kernel
theorem dX10_tried_14 : decode cX10_tried 14 = .ok (.ireturn, 1) := by decide +kernel
theorem dX10_tried_15 : decode cX10_tried 15 = .ok (.aload_n 0, 1) := by decide +kernel
theorem dX10_tried_16 : decode cX10_tried 16 = .ok (.iload_n 1, 1) := by decide +kernel
theorem dX10_tried_17 : decode cX10_tried 17 = .ok (.invokevirtual 236, 3) := by decide +kernel
theorem dX10_tried_20 : decode cX10_tried 20 = .ok (.istore_n 2, 1) := by decide +kernel
theorem dX10_tried_21 : decode cX10_tried 21 = .ok (.aload_n 0, 1) := by decide +kernel
theorem dX10_tried_22 : decode cX10_tried 22 = .ok (.getfield 228, 3) := by decide +kernel
theorem dX10_tried_25 : decode cX10_tried 25 = .ok (.ireturn, 1) := by decide +kernel
theorem dX10_fitAs_0 : decode cX10_fitAs 0 = .ok (.aload_n 0, 1) := by decide +kernel
theorem dX10_fitAs_1 : decode cX10_fitAs 1 = .ok (.iload_n 2, 1) := by decide +kernel
theorem dX10_fitAs_2 : decode cX10_fitAs 2 = .ok (.iconst 3, 1) := by decide +kernel
theorem dX10_fitAs_3 : decode cX10_fitAs 3 = .ok (.invokevirtual 125, 3) := by decide +kernel
theorem dX10_fitAs_6 : decode cX10_fitAs 6 = .ok (.aload_n 0, 1) := by decide +kernel
theorem dX10_fitAs_7 : decode cX10_fitAs 7 = .ok (.getfield 13, 3) := by decide +kernel
theorem dX10_fitAs_10 : decode cX10_fitAs 10 = .ok (.iconst 3, 1) := by decide +kernel
theorem dX10_fitAs_11 : decode cX10_fitAs 11 = .ok (.iload_n 3, 1) := by decide +kernel
theorem dX10_fitAs_12 : decode cX10_fitAs 12 = .ok (.imul, 1) := by decide +kernel
theorem dX10_fitAs_13 : decode cX10_fitAs 13 = .ok (.iconst 1, 1) := by decide +kernel
theorem dX10_fitAs_14 : decode cX10_fitAs 14 = .ok (.iadd, 1) := by decide +kernel
theorem dX10_fitAs_15 : decode cX10_fitAs 15 = .ok (.iaload, 1) := by decide +kernel
theorem dX10_fitAs_16 : decode cX10_fitAs 16 = .ok (.invokestatic 242, 3) := by decide +kernel
theorem dX10_fitAs_19 : decode cX10_fitAs 19 = .ok (.istore 4, 2) := by decide +kernel
theorem dX10_fitAs_21 : decode cX10_fitAs 21 = .ok (.iload 4, 2) := by decide +kernel
theorem dX10_fitAs_23 : decode cX10_fitAs 23 = .ok (.aload_n 0, 1) := by decide +kernel
theorem dX10_fitAs_24 : decode cX10_fitAs 24 = .ok (.iload_n 2, 1) := by decide +kernel
theorem dX10_fitAs_25 : decode cX10_fitAs 25 = .ok (.iconst 4, 1) := by decide +kernel
theorem dX10_fitAs_26 : decode cX10_fitAs 26 = .ok (.invokevirtual 125, 3) := by decide +kernel
theorem dX10_fitAs_29 : decode cX10_fitAs 29 = .ok (.aload_n 0, 1) := by decide +kernel
theorem dX10_fitAs_30 : decode cX10_fitAs 30 = .ok (.getfield 13, 3) := by decide +kernel
theorem dX10_fitAs_33 : decode cX10_fitAs 33 = .ok (.iconst 3, 1) := by decide +kernel
theorem dX10_fitAs_34 : decode cX10_fitAs 34 = .ok (.iload_n 3, 1) := by decide +kernel
theorem dX10_fitAs_35 : decode cX10_fitAs 35 = .ok (.imul, 1) := by decide +kernel
theorem dX10_fitAs_36 : decode cX10_fitAs 36 = .ok (.iconst 2, 1) := by decide +kernel
theorem dX10_fitAs_37 : decode cX10_fitAs 37 = .ok (.iadd, 1) := by decide +kernel
theorem dX10_fitAs_38 : decode cX10_fitAs 38 = .ok (.iaload, 1) := by decide +kernel
theorem dX10_fitAs_39 : decode cX10_fitAs 39 = .ok (.invokestatic 242, 3) := by decide +kernel
theorem dX10_fitAs_42 : decode cX10_fitAs 42 = .ok (.iadd, 1) := by decide +kernel
theorem dX10_fitAs_43 : decode cX10_fitAs 43 = .ok (.istore 5, 2) := by decide +kernel
theorem dX10_fitAs_45 : decode cX10_fitAs 45 = .ok (.iload 5, 2) := by decide +kernel
theorem dX10_fitAs_47 : decode cX10_fitAs 47 = .ok (.aload_n 0, 1) := by decide +kernel
theorem dX10_fitAs_48 : decode cX10_fitAs 48 = .ok (.iload_n 2, 1) := by decide +kernel
theorem dX10_fitAs_49 : decode cX10_fitAs 49 = .ok (.iconst 1, 1) := by decide +kernel
theorem dX10_fitAs_50 : decode cX10_fitAs 50 = .ok (.invokevirtual 125, 3) := by decide +kernel
theorem dX10_fitAs_53 : decode cX10_fitAs 53 = .ok (.aload_n 0, 1) := by decide +kernel
theorem dX10_fitAs_54 : decode cX10_fitAs 54 = .ok (.iload_n 3, 1) := by decide +kernel
theorem dX10_fitAs_55 : decode cX10_fitAs 55 = .ok (.invokevirtual 196, 3) := by decide +kernel
theorem dX10_fitAs_58 : decode cX10_fitAs 58 = .ok (.if_icmp .ne 7, 3) := by decide +kernel
theorem dX10_fitAs_61 : decode cX10_fitAs 61 = .ok (.iconst 0, 1) := by decide +kernel
theorem dX10_fitAs_62 : decode cX10_fitAs 62 = .ok (.goto 4, 3) := by decide +kernel
theorem dX10_fitAs_65 : decode cX10_fitAs 65 = .ok (.iconst 2, 1) := by decide +kernel
theorem dX10_fitAs_66 : decode cX10_fitAs 66 = .ok (.iadd, 1) := by decide +kernel
theorem dX10_fitAs_67 : decode cX10_fitAs 67 = .ok (.aload_n 0, 1) := by decide +kernel
theorem dX10_fitAs_68 : decode cX10_fitAs 68 = .ok (.iload_n 2, 1) := by decide +kernel
theorem dX10_fitAs_69 : decode cX10_fitAs 69 = .ok (.iconst 2, 1) := by decide +kernel
theorem dX10_fitAs_70 : decode cX10_fitAs 70 = .ok (.invokevirtual 125, 3) := by decide +kernel
theorem dX10_fitAs_73 : decode cX10_fitAs 73 = .ok (.aload_n 0, 1) := by decide +kernel
theorem dX10_fitAs_74 : decode cX10_fitAs 74 = .ok (.iload_n 3, 1) := by decide +kernel
theorem dX10_fitAs_75 : decode cX10_fitAs 75 = .ok (.invokevirtual 199, 3) := by decide +kernel
theorem dX10_fitAs_78 : decode cX10_fitAs 78 = .ok (.if_icmp .ne 7, 3) := by decide +kernel
theorem dX10_fitAs_81 : decode cX10_fitAs 81 = .ok (.iconst 0, 1) := by decide +kernel
theorem dX10_fitAs_82 : decode cX10_fitAs 82 = .ok (.goto 4, 3) := by decide +kernel
theorem dX10_fitAs_85 : decode cX10_fitAs 85 = .ok (.iconst 2, 1) := by decide +kernel
theorem dX10_fitAs_86 : decode cX10_fitAs 86 = .ok (.iadd, 1) := by decide +kernel
theorem dX10_fitAs_87 : decode cX10_fitAs 87 = .ok (.istore 6, 2) := by decide +kernel
theorem dX10_fitAs_89 : decode cX10_fitAs 89 = .ok (.iload_n 1, 1) := by decide +kernel
theorem dX10_fitAs_90 : decode cX10_fitAs 90 = .ok (.ifCond .ne 8, 3) := by decide +kernel
theorem dX10_fitAs_93 : decode cX10_fitAs 93 = .ok (.iload 5, 2) := by decide +kernel
theorem dX10_fitAs_95 : decode cX10_fitAs 95 = .ok (.goto 45, 3) := by decide +kernel
theorem dX10_fitAs_98 : decode cX10_fitAs 98 = .ok (.iload_n 1, 1) := by decide +kernel
theorem dX10_fitAs_99 : decode cX10_fitAs 99 = .ok (.iconst 1, 1) := by decide +kernel
theorem dX10_fitAs_100 : decode cX10_fitAs 100 = .ok (.if_icmp .ne 8, 3) := by decide +kernel
theorem dX10_fitAs_103 : decode cX10_fitAs 103 = .ok (.iload 6, 2) := by decide +kernel
theorem dX10_fitAs_105 : decode cX10_fitAs 105 = .ok (.goto 35, 3) := by decide +kernel
theorem dX10_fitAs_108 : decode cX10_fitAs 108 = .ok (.iload_n 1, 1) := by decide +kernel
theorem dX10_fitAs_109 : decode cX10_fitAs 109 = .ok (.iconst 2, 1) := by decide +kernel
theorem dX10_fitAs_110 : decode cX10_fitAs 110 = .ok (.if_icmp .ne 11, 3) := by decide +kernel
theorem dX10_fitAs_113 : decode cX10_fitAs 113 = .ok (.iload 5, 2) := by decide +kernel
theorem dX10_fitAs_115 : decode cX10_fitAs 115 = .ok (.iload 4, 2) := by decide +kernel
theorem dX10_fitAs_117 : decode cX10_fitAs 117 = .ok (.iadd, 1) := by decide +kernel
theorem dX10_fitAs_118 : decode cX10_fitAs 118 = .ok (.goto 22, 3) := by decide +kernel
theorem dX10_fitAs_121 : decode cX10_fitAs 121 = .ok (.iload_n 1, 1) := by decide +kernel
theorem dX10_fitAs_122 : decode cX10_fitAs 122 = .ok (.iconst 3, 1) := by decide +kernel
theorem dX10_fitAs_123 : decode cX10_fitAs 123 = .ok (.if_icmp .ne 10, 3) := by decide +kernel
theorem dX10_fitAs_126 : decode cX10_fitAs 126 = .ok (.iconst 2, 1) := by decide +kernel
theorem dX10_fitAs_127 : decode cX10_fitAs 127 = .ok (.iload 6, 2) := by decide +kernel
theorem dX10_fitAs_129 : decode cX10_fitAs 129 = .ok (.imul, 1) := by decide +kernel
theorem dX10_fitAs_130 : decode cX10_fitAs 130 = .ok (.goto 10, 3) := by decide +kernel
theorem dX10_fitAs_133 : decode cX10_fitAs 133 = .ok (.iload 5, 2) := by decide +kernel
theorem dX10_fitAs_135 : decode cX10_fitAs 135 = .ok (.iload 4, 2) := by decide +kernel
theorem dX10_fitAs_137 : decode cX10_fitAs 137 = .ok (.iadd, 1) := by decide +kernel
theorem dX10_fitAs_138 : decode cX10_fitAs 138 = .ok (.iconst 2, 1) := by decide +kernel
theorem dX10_fitAs_139 : decode cX10_fitAs 139 = .ok (.idiv, 1) := by decide +kernel
theorem dX10_fitAs_140 : decode cX10_fitAs 140 = .ok (.ireturn, 1) := by decide +kernel
theorem dX10_fit_0 : decode cX10_fit 0 = .ok (.aload_n 0, 1) := by decide +kernel
theorem dX10_fit_1 : decode cX10_fit 1 = .ok (.iload_n 1, 1) := by decide +kernel
theorem dX10_fit_2 : decode cX10_fit 2 = .ok (.invokevirtual 137, 3) := by decide +kernel
theorem dX10_fit_5 : decode cX10_fit 5 = .ok (.ifCond .eq 24, 3) := by decide +kernel
theorem dX10_fit_8 : decode cX10_fit 8 = .ok (.aload_n 0, 1) := by decide +kernel
theorem dX10_fit_9 : decode cX10_fit 9 = .ok (.iload_n 2, 1) := by decide +kernel
theorem dX10_fit_10 : decode cX10_fit 10 = .ok (.invokevirtual 193, 3) := by decide +kernel
theorem dX10_fit_13 : decode cX10_fit 13 = .ok (.ifCond .eq 16, 3) := by decide +kernel
theorem dX10_fit_16 : decode cX10_fit 16 = .ok (.aload_n 0, 1) := by decide +kernel
theorem dX10_fit_17 : decode cX10_fit 17 = .ok (.aload_n 0, 1) := by decide +kernel
theorem dX10_fit_18 : decode cX10_fit 18 = .ok (.getfield 145, 3) := by decide +kernel
theorem dX10_fit_21 : decode cX10_fit 21 = .ok (.iload_n 1, 1) := by decide +kernel
theorem dX10_fit_22 : decode cX10_fit 22 = .ok (.iload_n 2, 1) := by decide +kernel
theorem dX10_fit_23 : decode cX10_fit 23 = .ok (.invokevirtual 245, 3) := by decide +kernel
theorem dX10_fit_26 : decode cX10_fit 26 = .ok (.goto 9, 3) := by decide +kernel
theorem dX10_fit_29 : decode cX10_fit 29 = .ok (.aload_n 0, 1) := by decide +kernel
theorem dX10_fit_30 : decode cX10_fit 30 = .ok (.bipush (-2), 2) := by decide +kernel
theorem dX10_fit_32 : decode cX10_fit 32 = .ok (.invokevirtual 105, 3) := by decide +kernel
theorem dX10_fit_35 : decode cX10_fit 35 = .ok (.ireturn, 1) := by decide +kernel
theorem dX10_jointOf_0 : decode cX10_jointOf 0 = .ok (.aload_n 0, 1) := by decide +kernel
theorem dX10_jointOf_1 : decode cX10_jointOf 1 = .ok (.iload_n 1, 1) := by decide +kernel
theorem dX10_jointOf_2 : decode cX10_jointOf 2 = .ok (.invokevirtual 140, 3) := by decide +kernel
theorem dX10_jointOf_5 : decode cX10_jointOf 5 = .ok (.iload_n 2, 1) := by decide +kernel
theorem dX10_jointOf_6 : decode cX10_jointOf 6 = .ok (.if_icmp .ne 5, 3) := by decide +kernel
theorem dX10_jointOf_9 : decode cX10_jointOf 9 = .ok (.iconst 0, 1) := by decide +kernel
theorem dX10_jointOf_10 : decode cX10_jointOf 10 = .ok (.ireturn, 1) := by decide +kernel
theorem dX10_jointOf_11 : decode cX10_jointOf 11 = .ok (.iconst 3, 1) := by decide +kernel
theorem dX10_jointOf_12 : decode cX10_jointOf 12 = .ok (.aload_n 0, 1) := by decide +kernel
theorem dX10_jointOf_13 : decode cX10_jointOf 13 = .ok (.iload_n 1, 1) := by decide +kernel
theorem dX10_jointOf_14 : decode cX10_jointOf 14 = .ok (.iconst 3, 1) := by decide +kernel
theorem dX10_jointOf_15 : decode cX10_jointOf 15 = .ok (.invokevirtual 125, 3) := by decide +kernel
theorem dX10_jointOf_18 : decode cX10_jointOf 18 = .ok (.aload_n 0, 1) := by decide +kernel
theorem dX10_jointOf_19 : decode cX10_jointOf 19 = .ok (.iload_n 2, 1) := by decide +kernel
theorem dX10_jointOf_20 : decode cX10_jointOf 20 = .ok (.iconst 3, 1) := by decide +kernel
theorem dX10_jointOf_21 : decode cX10_jointOf 21 = .ok (.invokevirtual 125, 3) := by decide +kernel
theorem dX10_jointOf_24 : decode cX10_jointOf 24 = .ok (.invokestatic 242, 3) := by decide +kernel
theorem dX10_jointOf_27 : decode cX10_jointOf 27 = .ok (.iadd, 1) := by decide +kernel
theorem dX10_jointOf_28 : decode cX10_jointOf 28 = .ok (.aload_n 0, 1) := by decide +kernel
theorem dX10_jointOf_29 : decode cX10_jointOf 29 = .ok (.iload_n 1, 1) := by decide +kernel
theorem dX10_jointOf_30 : decode cX10_jointOf 30 = .ok (.iconst 2, 1) := by decide +kernel
theorem dX10_jointOf_31 : decode cX10_jointOf 31 = .ok (.invokevirtual 125, 3) := by decide +kernel
theorem dX10_jointOf_34 : decode cX10_jointOf 34 = .ok (.aload_n 0, 1) := by decide +kernel
theorem dX10_jointOf_35 : decode cX10_jointOf 35 = .ok (.iload_n 2, 1) := by decide +kernel
theorem dX10_jointOf_36 : decode cX10_jointOf 36 = .ok (.iconst 0, 1) := by decide +kernel
theorem dX10_jointOf_37 : decode cX10_jointOf 37 = .ok (.invokevirtual 125, 3) := by decide +kernel
theorem dX10_jointOf_40 : decode cX10_jointOf 40 = .ok (.if_icmp .ne 7, 3) := by decide +kernel
theorem dX10_jointOf_43 : decode cX10_jointOf 43 = .ok (.iconst 0, 1) := by decide +kernel
theorem dX10_jointOf_44 : decode cX10_jointOf 44 = .ok (.goto 4, 3) := by decide +kernel
theorem dX10_jointOf_47 : decode cX10_jointOf 47 = .ok (.iconst 2, 1) := by decide +kernel
theorem dX10_jointOf_48 : decode cX10_jointOf 48 = .ok (.iadd, 1) := by decide +kernel
theorem dX10_jointOf_49 : decode cX10_jointOf 49 = .ok (.aload_n 0, 1) := by decide +kernel
theorem dX10_jointOf_50 : decode cX10_jointOf 50 = .ok (.iload_n 2, 1) := by decide +kernel
theorem dX10_jointOf_51 : decode cX10_jointOf 51 = .ok (.iconst 1, 1) := by decide +kernel
theorem dX10_jointOf_52 : decode cX10_jointOf 52 = .ok (.invokevirtual 125, 3) := by decide +kernel
theorem dX10_jointOf_55 : decode cX10_jointOf 55 = .ok (.aload_n 0, 1) := by decide +kernel
theorem dX10_jointOf_56 : decode cX10_jointOf 56 = .ok (.iload_n 1, 1) := by decide +kernel
theorem dX10_jointOf_57 : decode cX10_jointOf 57 = .ok (.iconst 0, 1) := by decide +kernel
theorem dX10_jointOf_58 : decode cX10_jointOf 58 = .ok (.invokevirtual 125, 3) := by decide +kernel
theorem dX10_jointOf_61 : decode cX10_jointOf 61 = .ok (.if_icmp .ne 7, 3) := by decide +kernel
theorem dX10_jointOf_64 : decode cX10_jointOf 64 = .ok (.iconst 0, 1) := by decide +kernel
theorem dX10_jointOf_65 : decode cX10_jointOf 65 = .ok (.goto 4, 3) := by decide +kernel
theorem dX10_jointOf_68 : decode cX10_jointOf 68 = .ok (.iconst 2, 1) := by decide +kernel
theorem dX10_jointOf_69 : decode cX10_jointOf 69 = .ok (.iadd, 1) := by decide +kernel
theorem dX10_jointOf_70 : decode cX10_jointOf 70 = .ok (.ireturn, 1) := by decide +kernel
theorem dX10_joint_0 : decode cX10_joint 0 = .ok (.aload_n 0, 1) := by decide +kernel
theorem dX10_joint_1 : decode cX10_joint 1 = .ok (.iload_n 1, 1) := by decide +kernel
theorem dX10_joint_2 : decode cX10_joint 2 = .ok (.invokevirtual 137, 3) := by decide +kernel
theorem dX10_joint_5 : decode cX10_joint 5 = .ok (.ifCond .eq 20, 3) := by decide +kernel
theorem dX10_joint_8 : decode cX10_joint 8 = .ok (.aload_n 0, 1) := by decide +kernel
theorem dX10_joint_9 : decode cX10_joint 9 = .ok (.iload_n 2, 1) := by decide +kernel
theorem dX10_joint_10 : decode cX10_joint 10 = .ok (.invokevirtual 137, 3) := by decide +kernel
theorem dX10_joint_13 : decode cX10_joint 13 = .ok (.ifCond .eq 12, 3) := by decide +kernel
theorem dX10_joint_16 : decode cX10_joint 16 = .ok (.aload_n 0, 1) := by decide +kernel
theorem dX10_joint_17 : decode cX10_joint 17 = .ok (.iload_n 1, 1) := by decide +kernel
theorem dX10_joint_18 : decode cX10_joint 18 = .ok (.iload_n 2, 1) := by decide +kernel
theorem dX10_joint_19 : decode cX10_joint 19 = .ok (.invokevirtual 249, 3) := by decide +kernel
theorem dX10_joint_22 : decode cX10_joint 22 = .ok (.goto 9, 3) := by decide +kernel
theorem dX10_joint_25 : decode cX10_joint 25 = .ok (.aload_n 0, 1) := by decide +kernel
theorem dX10_joint_26 : decode cX10_joint 26 = .ok (.bipush (-2), 2) := by decide +kernel
theorem dX10_joint_28 : decode cX10_joint 28 = .ok (.invokevirtual 105, 3) := by decide +kernel
theorem dX10_joint_31 : decode cX10_joint 31 = .ok (.ireturn, 1) := by decide +kernel
theorem dX10_begins_0 : decode cX10_begins 0 = .ok (.aload_n 0, 1) := by decide +kernel
theorem dX10_begins_1 : decode cX10_begins 1 = .ok (.iconst (-1), 1) := by decide +kernel
theorem dX10_begins_2 : decode cX10_begins 2 = .ok (.putfield 252, 3) := by decide +kernel
theorem dX10_begins_5 : decode cX10_begins 5 = .ok (.aload_n 0, 1) := by decide +kernel
theorem dX10_begins_6 : decode cX10_begins 6 = .ok (.iconst (-1), 1) := by decide +kernel
theorem dX10_begins_7 : decode cX10_begins 7 = .ok (.putfield 255, 3) := by decide +kernel
theorem dX10_begins_10 : decode cX10_begins 10 = .ok (.aload_n 0, 1) := by decide +kernel
theorem dX10_begins_11 : decode cX10_begins 11 = .ok (.iconst (-1), 1) := by decide +kernel
theorem dX10_begins_12 : decode cX10_begins 12 = .ok (.putfield 258, 3) := by decide +kernel
theorem dX10_begins_15 : decode cX10_begins 15 = .ok (.aload_n 0, 1) := by decide +kernel
theorem dX10_begins_16 : decode cX10_begins 16 = .ok (.iconst 0, 1) := by decide +kernel
theorem dX10_begins_17 : decode cX10_begins 17 = .ok (.putfield 261, 3) := by decide +kernel
theorem dX10_begins_20 : decode cX10_begins 20 = .ok (.return_, 1) := by decide +kernel
theorem dX10_offers_0 : decode cX10_offers 0 = .ok (.aload_n 0, 1) := by decide +kernel
theorem dX10_offers_1 : decode cX10_offers 1 = .ok (.getfield 252, 3) := by decide +kernel
theorem dX10_offers_4 : decode cX10_offers 4 = .ok (.iconst (-1), 1) := by decide +kernel
theorem dX10_offers_5 : decode cX10_offers 5 = .ok (.if_icmp .eq 11, 3) := by decide +kernel
theorem dX10_offers_8 : decode cX10_offers 8 = .ok (.iload_n 1, 1) := by decide +kernel
theorem dX10_offers_9 : decode cX10_offers 9 = .ok (.aload_n 0, 1) := by decide +kernel
theorem dX10_offers_10 : decode cX10_offers 10 = .ok (.getfield 252, 3) := by decide +kernel
theorem dX10_offers_13 : decode cX10_offers 13 = .ok (.if_icmp .ge 19, 3) := by decide +kernel
theorem dX10_offers_16 : decode cX10_offers 16 = .ok (.aload_n 0, 1) := by decide +kernel
theorem dX10_offers_17 : decode cX10_offers 17 = .ok (.aload_n 0, 1) := by decide +kernel
theorem dX10_offers_18 : decode cX10_offers 18 = .ok (.getfield 252, 3) := by decide +kernel
theorem dX10_offers_21 : decode cX10_offers 21 = .ok (.putfield 255, 3) := by decide +kernel
theorem dX10_offers_24 : decode cX10_offers 24 = .ok (.aload_n 0, 1) := by decide +kernel
theorem dX10_offers_25 : decode cX10_offers 25 = .ok (.iload_n 1, 1) := by decide +kernel
theorem dX10_offers_26 : decode cX10_offers 26 = .ok (.putfield 252, 3) := by decide +kernel
theorem dX10_offers_29 : decode cX10_offers 29 = .ok (.goto 24, 3) := by decide +kernel
theorem dX10_offers_32 : decode cX10_offers 32 = .ok (.aload_n 0, 1) := by decide +kernel
theorem dX10_offers_33 : decode cX10_offers 33 = .ok (.getfield 255, 3) := by decide +kernel
theorem dX10_offers_36 : decode cX10_offers 36 = .ok (.iconst (-1), 1) := by decide +kernel
theorem dX10_offers_37 : decode cX10_offers 37 = .ok (.if_icmp .eq 11, 3) := by decide +kernel
theorem dX10_offers_40 : decode cX10_offers 40 = .ok (.iload_n 1, 1) := by decide +kernel
theorem dX10_offers_41 : decode cX10_offers 41 = .ok (.aload_n 0, 1) := by decide +kernel
theorem dX10_offers_42 : decode cX10_offers 42 = .ok (.getfield 255, 3) := by decide +kernel
theorem dX10_offers_45 : decode cX10_offers 45 = .ok (.if_icmp .ge 8, 3) := by decide +kernel
theorem dX10_offers_48 : decode cX10_offers 48 = .ok (.aload_n 0, 1) := by decide +kernel
theorem dX10_offers_49 : decode cX10_offers 49 = .ok (.iload_n 1, 1) := by decide +kernel
theorem dX10_offers_50 : decode cX10_offers 50 = .ok (.putfield 255, 3) := by decide +kernel
theorem dX10_offers_53 : decode cX10_offers 53 = .ok (.return_, 1) := by decide +kernel
theorem dX10_takesIn_0 : decode cX10_takesIn 0 = .ok (.aload_n 0, 1) := by decide +kernel
theorem dX10_takesIn_1 : decode cX10_takesIn 1 = .ok (.getfield 252, 3) := by decide +kernel
theorem dX10_takesIn_4 : decode cX10_takesIn 4 = .ok (.istore_n 3, 1) := by decide +kernel
theorem dX10_takesIn_5 : decode cX10_takesIn 5 = .ok (.aload_n 0, 1) := by decide +kernel
theorem dX10_takesIn_6 : decode cX10_takesIn 6 = .ok (.getfield 71, 3) := by decide +kernel
theorem dX10_takesIn_9 : decode cX10_takesIn 9 = .ok (.iload_n 1, 1) := by decide +kernel
theorem dX10_takesIn_10 : decode cX10_takesIn 10 = .ok (.iaload, 1) := by decide +kernel
theorem dX10_takesIn_11 : decode cX10_takesIn 11 = .ok (.iload_n 2, 1) := by decide +kernel
theorem dX10_takesIn_12 : decode cX10_takesIn 12 = .ok (.iadd, 1) := by decide +kernel
theorem dX10_takesIn_13 : decode cX10_takesIn 13 = .ok (.istore 4, 2) := by decide +kernel
theorem dX10_takesIn_15 : decode cX10_takesIn 15 = .ok (.aload_n 0, 1) := by decide +kernel
theorem dX10_takesIn_16 : decode cX10_takesIn 16 = .ok (.iload 4, 2) := by decide +kernel
theorem dX10_takesIn_18 : decode cX10_takesIn 18 = .ok (.invokevirtual 264, 3) := by decide +kernel
theorem dX10_takesIn_21 : decode cX10_takesIn 21 = .ok (.aload_n 0, 1) := by decide +kernel
theorem dX10_takesIn_22 : decode cX10_takesIn 22 = .ok (.getfield 74, 3) := by decide +kernel
theorem dX10_takesIn_25 : decode cX10_takesIn 25 = .ok (.iload_n 1, 1) := by decide +kernel
theorem dX10_takesIn_26 : decode cX10_takesIn 26 = .ok (.iaload, 1) := by decide +kernel
theorem dX10_takesIn_27 : decode cX10_takesIn 27 = .ok (.iconst (-1), 1) := by decide +kernel
theorem dX10_takesIn_28 : decode cX10_takesIn 28 = .ok (.if_icmp .eq 15, 3) := by decide +kernel
theorem dX10_takesIn_31 : decode cX10_takesIn 31 = .ok (.aload_n 0, 1) := by decide +kernel
theorem dX10_takesIn_32 : decode cX10_takesIn 32 = .ok (.aload_n 0, 1) := by decide +kernel
theorem dX10_takesIn_33 : decode cX10_takesIn 33 = .ok (.getfield 74, 3) := by decide +kernel
theorem dX10_takesIn_36 : decode cX10_takesIn 36 = .ok (.iload_n 1, 1) := by decide +kernel
theorem dX10_takesIn_37 : decode cX10_takesIn 37 = .ok (.iaload, 1) := by decide +kernel
theorem dX10_takesIn_38 : decode cX10_takesIn 38 = .ok (.iload_n 2, 1) := by decide +kernel
theorem dX10_takesIn_39 : decode cX10_takesIn 39 = .ok (.iadd, 1) := by decide +kernel
theorem dX10_takesIn_40 : decode cX10_takesIn 40 = .ok (.invokevirtual 264, 3) := by decide +kernel
theorem dX10_takesIn_43 : decode cX10_takesIn 43 = .ok (.iload_n 3, 1) := by decide +kernel
theorem dX10_takesIn_44 : decode cX10_takesIn 44 = .ok (.iconst (-1), 1) := by decide +kernel
theorem dX10_takesIn_45 : decode cX10_takesIn 45 = .ok (.if_icmp .eq 9, 3) := by decide +kernel
theorem dX10_takesIn_48 : decode cX10_takesIn 48 = .ok (.iload 4, 2) := by decide +kernel
theorem dX10_takesIn_50 : decode cX10_takesIn 50 = .ok (.iload_n 3, 1) := by decide +kernel
theorem dX10_takesIn_51 : decode cX10_takesIn 51 = .ok (.if_icmp .ge 7, 3) := by decide +kernel
theorem dX10_takesIn_54 : decode cX10_takesIn 54 = .ok (.lconst 0, 1) := by decide +kernel
theorem dX10_takesIn_55 : decode cX10_takesIn 55 = .ok (.goto 8, 3) := by decide +kernel
theorem dX10_takesIn_58 : decode cX10_takesIn 58 = .ok (.aload_n 0, 1) := by decide +kernel
theorem dX10_takesIn_59 : decode cX10_takesIn 59 = .ok (.getfield 261, 3) := by decide +kernel
theorem dX10_takesIn_62 : decode cX10_takesIn 62 = .ok (.i2l, 1) := by decide +kernel
theorem dX10_takesIn_63 : decode cX10_takesIn 63 = .ok (.lstore 5, 2) := by decide +kernel
theorem dX10_takesIn_65 : decode cX10_takesIn 65 = .ok (.aload_n 0, 1) := by decide +kernel
theorem dX10_takesIn_66 : decode cX10_takesIn 66 = .ok (.iload_n 3, 1) := by decide +kernel
theorem dX10_takesIn_67 : decode cX10_takesIn 67 = .ok (.iconst (-1), 1) := by decide +kernel
theorem dX10_takesIn_68 : decode cX10_takesIn 68 = .ok (.if_icmp .eq 16, 3) := by decide +kernel
theorem dX10_takesIn_71 : decode cX10_takesIn 71 = .ok (.iload 4, 2) := by decide +kernel
theorem dX10_takesIn_73 : decode cX10_takesIn 73 = .ok (.iload_n 3, 1) := by decide +kernel
theorem dX10_takesIn_74 : decode cX10_takesIn 74 = .ok (.if_icmp .le 10, 3) := by decide +kernel
theorem dX10_takesIn_77 : decode cX10_takesIn 77 = .ok (.aload_n 0, 1) := by decide +kernel
theorem dX10_takesIn_78 : decode cX10_takesIn 78 = .ok (.getfield 261, 3) := by decide +kernel
theorem dX10_takesIn_81 : decode cX10_takesIn 81 = .ok (.goto 37, 3) := by decide +kernel
theorem dX10_takesIn_84 : decode cX10_takesIn 84 = .ok (.lload 5, 2) := by decide +kernel
theorem dX10_takesIn_86 : decode cX10_takesIn 86 = .ok (.aload_n 0, 1) := by decide +kernel
theorem dX10_takesIn_87 : decode cX10_takesIn 87 = .ok (.getfield 80, 3) := by decide +kernel
theorem dX10_takesIn_90 : decode cX10_takesIn 90 = .ok (.iload_n 1, 1) := by decide +kernel
theorem dX10_takesIn_91 : decode cX10_takesIn 91 = .ok (.iaload, 1) := by decide +kernel
theorem dX10_takesIn_92 : decode cX10_takesIn 92 = .ok (.i2l, 1) := by decide +kernel
theorem dX10_takesIn_93 : decode cX10_takesIn 93 = .ok (.ladd, 1) := by decide +kernel
theorem dX10_takesIn_94 : decode cX10_takesIn 94 = .ok (.ldc2_w 268, 3) := by decide +kernel
theorem dX10_takesIn_97 : decode cX10_takesIn 97 = .ok (.lcmp, 1) := by decide +kernel
theorem dX10_takesIn_98 : decode cX10_takesIn 98 = .ok (.ifCond .le 9, 3) := by decide +kernel
theorem dX10_takesIn_101 : decode cX10_takesIn 101 = .ok (.ldc_w 270, 3) := by decide +kernel
theorem dX10_takesIn_104 : decode cX10_takesIn 104 = .ok (.goto 14, 3) := by decide +kernel
theorem dX10_takesIn_107 : decode cX10_takesIn 107 = .ok (.lload 5, 2) := by decide +kernel
theorem dX10_takesIn_109 : decode cX10_takesIn 109 = .ok (.aload_n 0, 1) := by decide +kernel
theorem dX10_takesIn_110 : decode cX10_takesIn 110 = .ok (.getfield 80, 3) := by decide +kernel
theorem dX10_takesIn_113 : decode cX10_takesIn 113 = .ok (.iload_n 1, 1) := by decide +kernel
theorem dX10_takesIn_114 : decode cX10_takesIn 114 = .ok (.iaload, 1) := by decide +kernel
theorem dX10_takesIn_115 : decode cX10_takesIn 115 = .ok (.i2l, 1) := by decide +kernel
theorem dX10_takesIn_116 : decode cX10_takesIn 116 = .ok (.ladd, 1) := by decide +kernel
theorem dX10_takesIn_117 : decode cX10_takesIn 117 = .ok (.l2i, 1) := by decide +kernel
theorem dX10_takesIn_118 : decode cX10_takesIn 118 = .ok (.putfield 261, 3) := by decide +kernel
theorem dX10_takesIn_121 : decode cX10_takesIn 121 = .ok (.aload_n 0, 1) := by decide +kernel
theorem dX10_takesIn_122 : decode cX10_takesIn 122 = .ok (.aload_n 0, 1) := by decide +kernel
theorem dX10_takesIn_123 : decode cX10_takesIn 123 = .ok (.getfield 77, 3) := by decide +kernel
theorem dX10_takesIn_126 : decode cX10_takesIn 126 = .ok (.iload_n 1, 1) := by decide +kernel
theorem dX10_takesIn_127 : decode cX10_takesIn 127 = .ok (.iaload, 1) := by decide +kernel
theorem dX10_takesIn_128 : decode cX10_takesIn 128 = .ok (.iload_n 2, 1) := by decide +kernel
theorem dX10_takesIn_129 : decode cX10_takesIn 129 = .ok (.iadd, 1) := by decide +kernel
theorem dX10_takesIn_130 : decode cX10_takesIn 130 = .ok (.aload_n 0, 1) := by decide +kernel
theorem dX10_takesIn_131 : decode cX10_takesIn 131 = .ok (.getfield 258, 3) := by decide +kernel
theorem dX10_takesIn_134 : decode cX10_takesIn 134 = .ok (.if_icmp .le 14, 3) := by decide +kernel
theorem dX10_takesIn_137 : decode cX10_takesIn 137 = .ok (.aload_n 0, 1) := by decide +kernel
theorem dX10_takesIn_138 : decode cX10_takesIn 138 = .ok (.getfield 77, 3) := by decide +kernel
theorem dX10_takesIn_141 : decode cX10_takesIn 141 = .ok (.iload_n 1, 1) := by decide +kernel
theorem dX10_takesIn_142 : decode cX10_takesIn 142 = .ok (.iaload, 1) := by decide +kernel
theorem dX10_takesIn_143 : decode cX10_takesIn 143 = .ok (.iload_n 2, 1) := by decide +kernel
theorem dX10_takesIn_144 : decode cX10_takesIn 144 = .ok (.iadd, 1) := by decide +kernel
theorem dX10_takesIn_145 : decode cX10_takesIn 145 = .ok (.goto 7, 3) := by decide +kernel
theorem dX10_takesIn_148 : decode cX10_takesIn 148 = .ok (.aload_n 0, 1) := by decide +kernel
theorem dX10_takesIn_149 : decode cX10_takesIn 149 = .ok (.getfield 258, 3) := by decide +kernel
theorem dX10_takesIn_152 : decode cX10_takesIn 152 = .ok (.putfield 258, 3) := by decide +kernel
theorem dX10_takesIn_155 : decode cX10_takesIn 155 = .ok (.return_, 1) := by decide +kernel
theorem dX10_chains_0 : decode cX10_chains 0 = .ok (.aload_n 0, 1) := by decide +kernel
theorem dX10_chains_1 : decode cX10_chains 1 = .ok (.getfield 187, 3) := by decide +kernel
theorem dX10_chains_4 : decode cX10_chains 4 = .ok (.ifCond .le 7, 3) := by decide +kernel
theorem dX10_chains_7 : decode cX10_chains 7 = .ok (.iconst 1, 1) := by decide +kernel
theorem dX10_chains_8 : decode cX10_chains 8 = .ok (.goto 4, 3) := by decide +kernel
theorem dX10_chains_11 : decode cX10_chains 11 = .ok (.iconst 0, 1) := by decide +kernel
theorem dX10_chains_12 : decode cX10_chains 12 = .ok (.istore_n 2, 1) := by decide +kernel
theorem dX10_chains_13 : decode cX10_chains 13 = .ok (.iconst 0, 1) := by decide +kernel
theorem dX10_chains_14 : decode cX10_chains 14 = .ok (.istore_n 3, 1) := by decide +kernel
theorem dX10_chains_15 : decode cX10_chains 15 = .ok (.iload_n 3, 1) := by decide +kernel
theorem dX10_chains_16 : decode cX10_chains 16 = .ok (.aload_n 0, 1) := by decide +kernel
theorem dX10_chains_17 : decode cX10_chains 17 = .ok (.getfield 187, 3) := by decide +kernel
theorem dX10_chains_20 : decode cX10_chains 20 = .ok (.if_icmp .ge 19, 3) := by decide +kernel
theorem dX10_chains_23 : decode cX10_chains 23 = .ok (.iload_n 2, 1) := by decide +kernel
theorem dX10_chains_24 : decode cX10_chains 24 = .ok (.ifCond .eq 15, 3) := by decide +kernel
theorem dX10_chains_27 : decode cX10_chains 27 = .ok (.aload_n 0, 1) := by decide +kernel
theorem dX10_chains_28 : decode cX10_chains 28 = .ok (.iload_n 3, 1) := by decide +kernel
theorem dX10_chains_29 : decode cX10_chains 29 = .ok (.invokevirtual 236, 3) := by decide +kernel
theorem dX10_chains_32 : decode cX10_chains 32 = .ok (.istore_n 2, 1) := by decide +kernel
theorem dX10_chains_33 : decode cX10_chains 33 = .ok (.iinc 3 1, 3) := by decide +kernel
theorem dX10_chains_36 : decode cX10_chains 36 = .ok (.goto (-21), 3) := by decide +kernel
theorem dX10_chains_39 : decode cX10_chains 39 = .ok (.aload_n 0, 1) := by decide +kernel
theorem dX10_chains_40 : decode cX10_chains 40 = .ok (.getfield 187, 3) := by decide +kernel
theorem dX10_chains_43 : decode cX10_chains 43 = .ok (.iconst 1, 1) := by decide +kernel
theorem dX10_chains_44 : decode cX10_chains 44 = .ok (.isub, 1) := by decide +kernel
theorem dX10_chains_45 : decode cX10_chains 45 = .ok (.istore_n 3, 1) := by decide +kernel
theorem dX10_chains_46 : decode cX10_chains 46 = .ok (.iload_n 3, 1) := by decide +kernel
theorem dX10_chains_47 : decode cX10_chains 47 = .ok (.ifCond .lt 241, 3) := by decide +kernel
theorem dX10_chains_50 : decode cX10_chains 50 = .ok (.iload_n 2, 1) := by decide +kernel
theorem dX10_chains_51 : decode cX10_chains 51 = .ok (.ifCond .eq 237, 3) := by decide +kernel
theorem dX10_chains_54 : decode cX10_chains 54 = .ok (.iconst 0, 1) := by decide +kernel
theorem dX10_chains_55 : decode cX10_chains 55 = .ok (.istore 4, 2) := by decide +kernel
theorem dX10_chains_57 : decode cX10_chains 57 = .ok (.iload 4, 2) := by decide +kernel
theorem dX10_chains_59 : decode cX10_chains 59 = .ok (.aload_n 0, 1) := by decide +kernel
theorem dX10_chains_60 : decode cX10_chains 60 = .ok (.getfield 65, 3) := by decide +kernel
theorem dX10_chains_63 : decode cX10_chains 63 = .ok (.iload_n 3, 1) := by decide +kernel
theorem dX10_chains_64 : decode cX10_chains 64 = .ok (.iaload, 1) := by decide +kernel
theorem dX10_chains_65 : decode cX10_chains 65 = .ok (.if_icmp .ge 217, 3) := by decide +kernel
theorem dX10_chains_68 : decode cX10_chains 68 = .ok (.bipush 40, 2) := by decide +kernel
theorem dX10_chains_70 : decode cX10_chains 70 = .ok (.iload_n 3, 1) := by decide +kernel
theorem dX10_chains_71 : decode cX10_chains 71 = .ok (.imul, 1) := by decide +kernel
theorem dX10_chains_72 : decode cX10_chains 72 = .ok (.iload 4, 2) := by decide +kernel
theorem dX10_chains_74 : decode cX10_chains 74 = .ok (.iadd, 1) := by decide +kernel
theorem dX10_chains_75 : decode cX10_chains 75 = .ok (.istore 5, 2) := by decide +kernel
theorem dX10_chains_77 : decode cX10_chains 77 = .ok (.aload_n 0, 1) := by decide +kernel
theorem dX10_chains_78 : decode cX10_chains 78 = .ok (.getfield 62, 3) := by decide +kernel
theorem dX10_chains_81 : decode cX10_chains 81 = .ok (.iload 5, 2) := by decide +kernel
theorem dX10_chains_83 : decode cX10_chains 83 = .ok (.iaload, 1) := by decide +kernel
theorem dX10_chains_84 : decode cX10_chains 84 = .ok (.istore 6, 2) := by decide +kernel
theorem dX10_chains_86 : decode cX10_chains 86 = .ok (.aload_n 0, 1) := by decide +kernel
theorem dX10_chains_87 : decode cX10_chains 87 = .ok (.iload_n 1, 1) := by decide +kernel
theorem dX10_chains_88 : decode cX10_chains 88 = .ok (.iload 6, 2) := by decide +kernel
theorem dX10_chains_90 : decode cX10_chains 90 = .ok (.iload_n 3, 1) := by decide +kernel
theorem dX10_chains_91 : decode cX10_chains 91 = .ok (.invokevirtual 245, 3) := by decide +kernel
theorem dX10_chains_94 : decode cX10_chains 94 = .ok (.istore 7, 2) := by decide +kernel
theorem dX10_chains_96 : decode cX10_chains 96 = .ok (.aload_n 0, 1) := by decide +kernel
theorem dX10_chains_97 : decode cX10_chains 97 = .ok (.invokevirtual 271, 3) := by decide +kernel
theorem dX10_chains_100 : decode cX10_chains 100 = .ok (.iconst 0, 1) := by decide +kernel
theorem dX10_chains_101 : decode cX10_chains 101 = .ok (.istore 8, 2) := by decide +kernel
theorem dX10_chains_103 : decode cX10_chains 103 = .ok (.iload_n 3, 1) := by decide +kernel
theorem dX10_chains_104 : decode cX10_chains 104 = .ok (.iconst 1, 1) := by decide +kernel
theorem dX10_chains_105 : decode cX10_chains 105 = .ok (.iadd, 1) := by decide +kernel
theorem dX10_chains_106 : decode cX10_chains 106 = .ok (.aload_n 0, 1) := by decide +kernel
theorem dX10_chains_107 : decode cX10_chains 107 = .ok (.getfield 187, 3) := by decide +kernel
theorem dX10_chains_110 : decode cX10_chains 110 = .ok (.if_icmp .ge 52, 3) := by decide +kernel
theorem dX10_chains_113 : decode cX10_chains 113 = .ok (.iload 8, 2) := by decide +kernel
theorem dX10_chains_115 : decode cX10_chains 115 = .ok (.aload_n 0, 1) := by decide +kernel
theorem dX10_chains_116 : decode cX10_chains 116 = .ok (.getfield 65, 3) := by decide +kernel
theorem dX10_chains_119 : decode cX10_chains 119 = .ok (.iload_n 3, 1) := by decide +kernel
theorem dX10_chains_120 : decode cX10_chains 120 = .ok (.iconst 1, 1) := by decide +kernel
theorem dX10_chains_121 : decode cX10_chains 121 = .ok (.iadd, 1) := by decide +kernel
theorem dX10_chains_122 : decode cX10_chains 122 = .ok (.iaload, 1) := by decide +kernel
theorem dX10_chains_123 : decode cX10_chains 123 = .ok (.if_icmp .ge 39, 3) := by decide +kernel
theorem dX10_chains_126 : decode cX10_chains 126 = .ok (.bipush 40, 2) := by decide +kernel
theorem dX10_chains_128 : decode cX10_chains 128 = .ok (.iload_n 3, 1) := by decide +kernel
theorem dX10_chains_129 : decode cX10_chains 129 = .ok (.iconst 1, 1) := by decide +kernel
theorem dX10_chains_130 : decode cX10_chains 130 = .ok (.iadd, 1) := by decide +kernel
theorem dX10_chains_131 : decode cX10_chains 131 = .ok (.imul, 1) := by decide +kernel
theorem dX10_chains_132 : decode cX10_chains 132 = .ok (.iload 8, 2) := by decide +kernel
theorem dX10_chains_134 : decode cX10_chains 134 = .ok (.iadd, 1) := by decide +kernel
theorem dX10_chains_135 : decode cX10_chains 135 = .ok (.istore 9, 2) := by decide +kernel
theorem dX10_chains_137 : decode cX10_chains 137 = .ok (.aload_n 0, 1) := by decide +kernel
theorem dX10_chains_138 : decode cX10_chains 138 = .ok (.iload 9, 2) := by decide +kernel
theorem dX10_chains_140 : decode cX10_chains 140 = .ok (.aload_n 0, 1) := by decide +kernel
theorem dX10_chains_141 : decode cX10_chains 141 = .ok (.iload 6, 2) := by decide +kernel
theorem dX10_chains_143 : decode cX10_chains 143 = .ok (.aload_n 0, 1) := by decide +kernel
theorem dX10_chains_144 : decode cX10_chains 144 = .ok (.getfield 62, 3) := by decide +kernel
theorem dX10_chains_147 : decode cX10_chains 147 = .ok (.iload 9, 2) := by decide +kernel
theorem dX10_chains_149 : decode cX10_chains 149 = .ok (.iaload, 1) := by decide +kernel
theorem dX10_chains_150 : decode cX10_chains 150 = .ok (.invokevirtual 249, 3) := by decide +kernel
theorem dX10_chains_153 : decode cX10_chains 153 = .ok (.invokevirtual 274, 3) := by decide +kernel
theorem dX10_chains_156 : decode cX10_chains 156 = .ok (.iinc 8 1, 3) := by decide +kernel
theorem dX10_chains_159 : decode cX10_chains 159 = .ok (.goto (-56), 3) := by decide +kernel
theorem dX10_chains_162 : decode cX10_chains 162 = .ok (.iload_n 3, 1) := by decide +kernel
theorem dX10_chains_163 : decode cX10_chains 163 = .ok (.iconst 1, 1) := by decide +kernel
theorem dX10_chains_164 : decode cX10_chains 164 = .ok (.iadd, 1) := by decide +kernel
theorem dX10_chains_165 : decode cX10_chains 165 = .ok (.aload_n 0, 1) := by decide +kernel
theorem dX10_chains_166 : decode cX10_chains 166 = .ok (.getfield 187, 3) := by decide +kernel
theorem dX10_chains_169 : decode cX10_chains 169 = .ok (.if_icmp .ne 7, 3) := by decide +kernel
theorem dX10_chains_172 : decode cX10_chains 172 = .ok (.iconst 1, 1) := by decide +kernel
theorem dX10_chains_173 : decode cX10_chains 173 = .ok (.goto 4, 3) := by decide +kernel
theorem dX10_chains_176 : decode cX10_chains 176 = .ok (.iconst 0, 1) := by decide +kernel
theorem dX10_chains_177 : decode cX10_chains 177 = .ok (.istore 8, 2) := by decide +kernel
theorem dX10_chains_179 : decode cX10_chains 179 = .ok (.aload_n 0, 1) := by decide +kernel
theorem dX10_chains_180 : decode cX10_chains 180 = .ok (.getfield 71, 3) := by decide +kernel
theorem dX10_chains_183 : decode cX10_chains 183 = .ok (.iload 5, 2) := by decide +kernel
theorem dX10_chains_185 : decode cX10_chains 185 = .ok (.iload 7, 2) := by decide +kernel
theorem dX10_chains_187 : decode cX10_chains 187 = .ok (.iload 8, 2) := by decide +kernel
theorem dX10_chains_189 : decode cX10_chains 189 = .ok (.ifCond .eq 7, 3) := by decide +kernel
theorem dX10_chains_192 : decode cX10_chains 192 = .ok (.iconst 0, 1) := by decide +kernel
theorem dX10_chains_193 : decode cX10_chains 193 = .ok (.goto 7, 3) := by decide +kernel
theorem dX10_chains_196 : decode cX10_chains 196 = .ok (.aload_n 0, 1) := by decide +kernel
theorem dX10_chains_197 : decode cX10_chains 197 = .ok (.getfield 252, 3) := by decide +kernel
theorem dX10_chains_200 : decode cX10_chains 200 = .ok (.iadd, 1) := by decide +kernel
theorem dX10_chains_201 : decode cX10_chains 201 = .ok (.iastore, 1) := by decide +kernel
theorem dX10_chains_202 : decode cX10_chains 202 = .ok (.aload_n 0, 1) := by decide +kernel
theorem dX10_chains_203 : decode cX10_chains 203 = .ok (.getfield 74, 3) := by decide +kernel
theorem dX10_chains_206 : decode cX10_chains 206 = .ok (.iload 5, 2) := by decide +kernel
theorem dX10_chains_208 : decode cX10_chains 208 = .ok (.iload 8, 2) := by decide +kernel
theorem dX10_chains_210 : decode cX10_chains 210 = .ok (.ifCond .ne 11, 3) := by decide +kernel
theorem dX10_chains_213 : decode cX10_chains 213 = .ok (.aload_n 0, 1) := by decide +kernel
theorem dX10_chains_214 : decode cX10_chains 214 = .ok (.getfield 255, 3) := by decide +kernel
theorem dX10_chains_217 : decode cX10_chains 217 = .ok (.iconst (-1), 1) := by decide +kernel
theorem dX10_chains_218 : decode cX10_chains 218 = .ok (.if_icmp .ne 7, 3) := by decide +kernel
theorem dX10_chains_221 : decode cX10_chains 221 = .ok (.iconst (-1), 1) := by decide +kernel
theorem dX10_chains_222 : decode cX10_chains 222 = .ok (.goto 10, 3) := by decide +kernel
theorem dX10_chains_225 : decode cX10_chains 225 = .ok (.iload 7, 2) := by decide +kernel
theorem dX10_chains_227 : decode cX10_chains 227 = .ok (.aload_n 0, 1) := by decide +kernel
theorem dX10_chains_228 : decode cX10_chains 228 = .ok (.getfield 255, 3) := by decide +kernel
theorem dX10_chains_231 : decode cX10_chains 231 = .ok (.iadd, 1) := by decide +kernel
theorem dX10_chains_232 : decode cX10_chains 232 = .ok (.iastore, 1) := by decide +kernel
theorem dX10_chains_233 : decode cX10_chains 233 = .ok (.aload_n 0, 1) := by decide +kernel
theorem dX10_chains_234 : decode cX10_chains 234 = .ok (.getfield 77, 3) := by decide +kernel
theorem dX10_chains_237 : decode cX10_chains 237 = .ok (.iload 5, 2) := by decide +kernel
theorem dX10_chains_239 : decode cX10_chains 239 = .ok (.iload 7, 2) := by decide +kernel
theorem dX10_chains_241 : decode cX10_chains 241 = .ok (.iload 8, 2) := by decide +kernel
theorem dX10_chains_243 : decode cX10_chains 243 = .ok (.ifCond .eq 7, 3) := by decide +kernel
theorem dX10_chains_246 : decode cX10_chains 246 = .ok (.iconst 0, 1) := by decide +kernel
theorem dX10_chains_247 : decode cX10_chains 247 = .ok (.goto 7, 3) := by decide +kernel
theorem dX10_chains_250 : decode cX10_chains 250 = .ok (.aload_n 0, 1) := by decide +kernel
theorem dX10_chains_251 : decode cX10_chains 251 = .ok (.getfield 258, 3) := by decide +kernel
theorem dX10_chains_254 : decode cX10_chains 254 = .ok (.iadd, 1) := by decide +kernel
theorem dX10_chains_255 : decode cX10_chains 255 = .ok (.iastore, 1) := by decide +kernel
theorem dX10_chains_256 : decode cX10_chains 256 = .ok (.aload_n 0, 1) := by decide +kernel
theorem dX10_chains_257 : decode cX10_chains 257 = .ok (.getfield 80, 3) := by decide +kernel
theorem dX10_chains_260 : decode cX10_chains 260 = .ok (.iload 5, 2) := by decide +kernel
theorem dX10_chains_262 : decode cX10_chains 262 = .ok (.iload 8, 2) := by decide +kernel
theorem dX10_chains_264 : decode cX10_chains 264 = .ok (.ifCond .eq 7, 3) := by decide +kernel
theorem dX10_chains_267 : decode cX10_chains 267 = .ok (.iconst 1, 1) := by decide +kernel
theorem dX10_chains_268 : decode cX10_chains 268 = .ok (.goto 7, 3) := by decide +kernel
theorem dX10_chains_271 : decode cX10_chains 271 = .ok (.aload_n 0, 1) := by decide +kernel
theorem dX10_chains_272 : decode cX10_chains 272 = .ok (.getfield 261, 3) := by decide +kernel
theorem dX10_chains_275 : decode cX10_chains 275 = .ok (.iastore, 1) := by decide +kernel
theorem dX10_chains_276 : decode cX10_chains 276 = .ok (.iinc 4 1, 3) := by decide +kernel
theorem dX10_chains_279 : decode cX10_chains 279 = .ok (.goto (-222), 3) := by decide +kernel
theorem dX10_chains_282 : decode cX10_chains 282 = .ok (.iinc 3 (-1), 3) := by decide +kernel
theorem dX10_chains_285 : decode cX10_chains 285 = .ok (.goto (-239), 3) := by decide +kernel
theorem dX10_chains_288 : decode cX10_chains 288 = .ok (.aload_n 0, 1) := by decide +kernel
theorem dX10_chains_289 : decode cX10_chains 289 = .ok (.invokevirtual 271, 3) := by decide +kernel
theorem dX10_chains_292 : decode cX10_chains 292 = .ok (.iconst 0, 1) := by decide +kernel
theorem dX10_chains_293 : decode cX10_chains 293 = .ok (.istore_n 3, 1) := by decide +kernel
theorem dX10_chains_294 : decode cX10_chains 294 = .ok (.iload_n 2, 1) := by decide +kernel
theorem dX10_chains_295 : decode cX10_chains 295 = .ok (.ifCond .eq 25, 3) := by decide +kernel
theorem dX10_chains_298 : decode cX10_chains 298 = .ok (.iload_n 3, 1) := by decide +kernel
theorem dX10_chains_299 : decode cX10_chains 299 = .ok (.aload_n 0, 1) := by decide +kernel
theorem dX10_chains_300 : decode cX10_chains 300 = .ok (.getfield 65, 3) := by decide +kernel
theorem dX10_chains_303 : decode cX10_chains 303 = .ok (.iconst 0, 1) := by decide +kernel
theorem dX10_chains_304 : decode cX10_chains 304 = .ok (.iaload, 1) := by decide +kernel
theorem dX10_chains_305 : decode cX10_chains 305 = .ok (.if_icmp .ge 15, 3) := by decide +kernel
theorem dX10_chains_308 : decode cX10_chains 308 = .ok (.aload_n 0, 1) := by decide +kernel
theorem dX10_chains_309 : decode cX10_chains 309 = .ok (.iload_n 3, 1) := by decide +kernel
theorem dX10_chains_310 : decode cX10_chains 310 = .ok (.iconst 0, 1) := by decide +kernel
theorem dX10_chains_311 : decode cX10_chains 311 = .ok (.invokevirtual 274, 3) := by decide +kernel
theorem dX10_chains_314 : decode cX10_chains 314 = .ok (.iinc 3 1, 3) := by decide +kernel
theorem dX10_chains_317 : decode cX10_chains 317 = .ok (.goto (-23), 3) := by decide +kernel
theorem dX10_chains_320 : decode cX10_chains 320 = .ok (.iload_n 2, 1) := by decide +kernel
theorem dX10_chains_321 : decode cX10_chains 321 = .ok (.ireturn, 1) := by decide +kernel
theorem dX10_layChain_0 : decode cX10_layChain 0 = .ok (.aload_n 0, 1) := by decide +kernel
theorem dX10_layChain_1 : decode cX10_layChain 1 = .ok (.getfield 252, 3) := by decide +kernel
theorem dX10_layChain_4 : decode cX10_layChain 4 = .ok (.istore_n 1, 1) := by decide +kernel
theorem dX10_layChain_5 : decode cX10_layChain 5 = .ok (.iconst 0, 1) := by decide +kernel
theorem dX10_layChain_6 : decode cX10_layChain 6 = .ok (.istore_n 2, 1) := by decide +kernel
theorem dX10_layChain_7 : decode cX10_layChain 7 = .ok (.iload_n 2, 1) := by decide +kernel
theorem dX10_layChain_8 : decode cX10_layChain 8 = .ok (.aload_n 0, 1) := by decide +kernel
theorem dX10_layChain_9 : decode cX10_layChain 9 = .ok (.getfield 187, 3) := by decide +kernel
theorem dX10_layChain_12 : decode cX10_layChain 12 = .ok (.if_icmp .ge 132, 3) := by decide +kernel
theorem dX10_layChain_15 : decode cX10_layChain 15 = .ok (.iconst (-1), 1) := by decide +kernel
theorem dX10_layChain_16 : decode cX10_layChain 16 = .ok (.istore_n 3, 1) := by decide +kernel
theorem dX10_layChain_17 : decode cX10_layChain 17 = .ok (.aload_n 0, 1) := by decide +kernel
theorem dX10_layChain_18 : decode cX10_layChain 18 = .ok (.getfield 65, 3) := by decide +kernel
theorem dX10_layChain_21 : decode cX10_layChain 21 = .ok (.iload_n 2, 1) := by decide +kernel
theorem dX10_layChain_22 : decode cX10_layChain 22 = .ok (.iaload, 1) := by decide +kernel
theorem dX10_layChain_23 : decode cX10_layChain 23 = .ok (.iconst 1, 1) := by decide +kernel
theorem dX10_layChain_24 : decode cX10_layChain 24 = .ok (.isub, 1) := by decide +kernel
theorem dX10_layChain_25 : decode cX10_layChain 25 = .ok (.istore 4, 2) := by decide +kernel
theorem dX10_layChain_27 : decode cX10_layChain 27 = .ok (.iload 4, 2) := by decide +kernel
theorem dX10_layChain_29 : decode cX10_layChain 29 = .ok (.ifCond .lt 68, 3) := by decide +kernel
theorem dX10_layChain_32 : decode cX10_layChain 32 = .ok (.bipush 40, 2) := by decide +kernel
theorem dX10_layChain_34 : decode cX10_layChain 34 = .ok (.iload_n 2, 1) := by decide +kernel
theorem dX10_layChain_35 : decode cX10_layChain 35 = .ok (.imul, 1) := by decide +kernel
theorem dX10_layChain_36 : decode cX10_layChain 36 = .ok (.iload 4, 2) := by decide +kernel
theorem dX10_layChain_38 : decode cX10_layChain 38 = .ok (.iadd, 1) := by decide +kernel
theorem dX10_layChain_39 : decode cX10_layChain 39 = .ok (.istore 5, 2) := by decide +kernel
theorem dX10_layChain_41 : decode cX10_layChain 41 = .ok (.iload_n 2, 1) := by decide +kernel
theorem dX10_layChain_42 : decode cX10_layChain 42 = .ok (.ifCond .ne 7, 3) := by decide +kernel
theorem dX10_layChain_45 : decode cX10_layChain 45 = .ok (.iconst 0, 1) := by decide +kernel
theorem dX10_layChain_46 : decode cX10_layChain 46 = .ok (.goto 22, 3) := by decide +kernel
theorem dX10_layChain_49 : decode cX10_layChain 49 = .ok (.aload_n 0, 1) := by decide +kernel
theorem dX10_layChain_50 : decode cX10_layChain 50 = .ok (.aload_n 0, 1) := by decide +kernel
theorem dX10_layChain_51 : decode cX10_layChain 51 = .ok (.getfield 83, 3) := by decide +kernel
theorem dX10_layChain_54 : decode cX10_layChain 54 = .ok (.iload_n 2, 1) := by decide +kernel
theorem dX10_layChain_55 : decode cX10_layChain 55 = .ok (.iconst 1, 1) := by decide +kernel
theorem dX10_layChain_56 : decode cX10_layChain 56 = .ok (.isub, 1) := by decide +kernel
theorem dX10_layChain_57 : decode cX10_layChain 57 = .ok (.iaload, 1) := by decide +kernel
theorem dX10_layChain_58 : decode cX10_layChain 58 = .ok (.aload_n 0, 1) := by decide +kernel
theorem dX10_layChain_59 : decode cX10_layChain 59 = .ok (.getfield 62, 3) := by decide +kernel
theorem dX10_layChain_62 : decode cX10_layChain 62 = .ok (.iload 5, 2) := by decide +kernel
theorem dX10_layChain_64 : decode cX10_layChain 64 = .ok (.iaload, 1) := by decide +kernel
theorem dX10_layChain_65 : decode cX10_layChain 65 = .ok (.invokevirtual 249, 3) := by decide +kernel
theorem dX10_layChain_68 : decode cX10_layChain 68 = .ok (.istore 6, 2) := by decide +kernel
theorem dX10_layChain_70 : decode cX10_layChain 70 = .ok (.aload_n 0, 1) := by decide +kernel
theorem dX10_layChain_71 : decode cX10_layChain 71 = .ok (.getfield 71, 3) := by decide +kernel
theorem dX10_layChain_74 : decode cX10_layChain 74 = .ok (.iload 5, 2) := by decide +kernel
theorem dX10_layChain_76 : decode cX10_layChain 76 = .ok (.iaload, 1) := by decide +kernel
theorem dX10_layChain_77 : decode cX10_layChain 77 = .ok (.iload 6, 2) := by decide +kernel
theorem dX10_layChain_79 : decode cX10_layChain 79 = .ok (.iadd, 1) := by decide +kernel
theorem dX10_layChain_80 : decode cX10_layChain 80 = .ok (.iload_n 1, 1) := by decide +kernel
theorem dX10_layChain_81 : decode cX10_layChain 81 = .ok (.if_icmp .ne 8, 3) := by decide +kernel
theorem dX10_layChain_84 : decode cX10_layChain 84 = .ok (.iload 4, 2) := by decide +kernel
theorem dX10_layChain_86 : decode cX10_layChain 86 = .ok (.goto 4, 3) := by decide +kernel
theorem dX10_layChain_89 : decode cX10_layChain 89 = .ok (.iload_n 3, 1) := by decide +kernel
theorem dX10_layChain_90 : decode cX10_layChain 90 = .ok (.istore_n 3, 1) := by decide +kernel
theorem dX10_layChain_91 : decode cX10_layChain 91 = .ok (.iinc 4 (-1), 3) := by decide +kernel
theorem dX10_layChain_94 : decode cX10_layChain 94 = .ok (.goto (-67), 3) := by decide +kernel
theorem dX10_layChain_97 : decode cX10_layChain 97 = .ok (.bipush 40, 2) := by decide +kernel
theorem dX10_layChain_99 : decode cX10_layChain 99 = .ok (.iload_n 2, 1) := by decide +kernel
theorem dX10_layChain_100 : decode cX10_layChain 100 = .ok (.imul, 1) := by decide +kernel
theorem dX10_layChain_101 : decode cX10_layChain 101 = .ok (.iload_n 3, 1) := by decide +kernel
theorem dX10_layChain_102 : decode cX10_layChain 102 = .ok (.iadd, 1) := by decide +kernel
theorem dX10_layChain_103 : decode cX10_layChain 103 = .ok (.istore 4, 2) := by decide +kernel
theorem dX10_layChain_105 : decode cX10_layChain 105 = .ok (.aload_n 0, 1) := by decide +kernel
theorem dX10_layChain_106 : decode cX10_layChain 106 = .ok (.getfield 62, 3) := by decide +kernel
theorem dX10_layChain_109 : decode cX10_layChain 109 = .ok (.iload 4, 2) := by decide +kernel
theorem dX10_layChain_111 : decode cX10_layChain 111 = .ok (.iaload, 1) := by decide +kernel
theorem dX10_layChain_112 : decode cX10_layChain 112 = .ok (.istore 5, 2) := by decide +kernel
theorem dX10_layChain_114 : decode cX10_layChain 114 = .ok (.aload_n 0, 1) := by decide +kernel
theorem dX10_layChain_115 : decode cX10_layChain 115 = .ok (.getfield 71, 3) := by decide +kernel
theorem dX10_layChain_118 : decode cX10_layChain 118 = .ok (.iload 4, 2) := by decide +kernel
theorem dX10_layChain_120 : decode cX10_layChain 120 = .ok (.iaload, 1) := by decide +kernel
theorem dX10_layChain_121 : decode cX10_layChain 121 = .ok (.aload_n 0, 1) := by decide +kernel
theorem dX10_layChain_122 : decode cX10_layChain 122 = .ok (.iload 5, 2) := by decide +kernel
theorem dX10_layChain_124 : decode cX10_layChain 124 = .ok (.iload_n 2, 1) := by decide +kernel
theorem dX10_layChain_125 : decode cX10_layChain 125 = .ok (.invokevirtual 277, 3) := by decide +kernel
theorem dX10_layChain_128 : decode cX10_layChain 128 = .ok (.isub, 1) := by decide +kernel
theorem dX10_layChain_129 : decode cX10_layChain 129 = .ok (.istore_n 1, 1) := by decide +kernel
theorem dX10_layChain_130 : decode cX10_layChain 130 = .ok (.aload_n 0, 1) := by decide +kernel
theorem dX10_layChain_131 : decode cX10_layChain 131 = .ok (.getfield 83, 3) := by decide +kernel
theorem dX10_layChain_134 : decode cX10_layChain 134 = .ok (.iload_n 2, 1) := by decide +kernel
theorem dX10_layChain_135 : decode cX10_layChain 135 = .ok (.iload 5, 2) := by decide +kernel
theorem dX10_layChain_137 : decode cX10_layChain 137 = .ok (.iastore, 1) := by decide +kernel
theorem dX10_layChain_138 : decode cX10_layChain 138 = .ok (.iinc 2 1, 3) := by decide +kernel
theorem dX10_layChain_141 : decode cX10_layChain 141 = .ok (.goto (-134), 3) := by decide +kernel
theorem dX10_layChain_144 : decode cX10_layChain 144 = .ok (.return_, 1) := by decide +kernel
theorem dX10_fitNow_0 : decode cX10_fitNow 0 = .ok (.aload_n 0, 1) := by decide +kernel
theorem dX10_fitNow_1 : decode cX10_fitNow 1 = .ok (.aload_n 0, 1) := by decide +kernel
theorem dX10_fitNow_2 : decode cX10_fitNow 2 = .ok (.getfield 280, 3) := by decide +kernel
theorem dX10_fitNow_5 : decode cX10_fitNow 5 = .ok (.iload_n 1, 1) := by decide +kernel
theorem dX10_fitNow_6 : decode cX10_fitNow 6 = .ok (.iload_n 2, 1) := by decide +kernel
theorem dX10_fitNow_7 : decode cX10_fitNow 7 = .ok (.invokevirtual 245, 3) := by decide +kernel
theorem dX10_fitNow_10 : decode cX10_fitNow 10 = .ok (.ireturn, 1) := by decide +kernel
theorem dX10_chainsNow_0 : decode cX10_chainsNow 0 = .ok (.aload_n 0, 1) := by decide +kernel
theorem dX10_chainsNow_1 : decode cX10_chainsNow 1 = .ok (.aload_n 0, 1) := by decide +kernel
theorem dX10_chainsNow_2 : decode cX10_chainsNow 2 = .ok (.getfield 145, 3) := by decide +kernel
theorem dX10_chainsNow_5 : decode cX10_chainsNow 5 = .ok (.putfield 280, 3) := by decide +kernel
theorem dX10_chainsNow_8 : decode cX10_chainsNow 8 = .ok (.aload_n 0, 1) := by decide +kernel
theorem dX10_chainsNow_9 : decode cX10_chainsNow 9 = .ok (.aload_n 0, 1) := by decide +kernel
theorem dX10_chainsNow_10 : decode cX10_chainsNow 10 = .ok (.getfield 145, 3) := by decide +kernel
theorem dX10_chainsNow_13 : decode cX10_chainsNow 13 = .ok (.invokevirtual 283, 3) := by decide +kernel
theorem dX10_chainsNow_16 : decode cX10_chainsNow 16 = .ok (.ireturn, 1) := by decide +kernel
theorem dX10_cost_0 : decode cX10_cost 0 = .ok (.aload_n 0, 1) := by decide +kernel
theorem dX10_cost_1 : decode cX10_cost 1 = .ok (.invokevirtual 286, 3) := by decide +kernel
theorem dX10_cost_4 : decode cX10_cost 4 = .ok (.ifCond .eq 10, 3) := by decide +kernel
theorem dX10_cost_7 : decode cX10_cost 7 = .ok (.aload_n 0, 1) := by decide +kernel
theorem dX10_cost_8 : decode cX10_cost 8 = .ok (.getfield 252, 3) := by decide +kernel
theorem dX10_cost_11 : decode cX10_cost 11 = .ok (.goto 7, 3) := by decide +kernel
theorem dX10_cost_14 : decode cX10_cost 14 = .ok (.aload_n 0, 1) := by decide +kernel
theorem dX10_cost_15 : decode cX10_cost 15 = .ok (.invokevirtual 239, 3) := by decide +kernel
theorem dX10_cost_18 : decode cX10_cost 18 = .ok (.ireturn, 1) := by decide +kernel
theorem dX10_chain_0 : decode cX10_chain 0 = .ok (.iload_n 1, 1) := by decide +kernel
theorem dX10_chain_1 : decode cX10_chain 1 = .ok (.i2l, 1) := by decide +kernel
theorem dX10_chain_2 : decode cX10_chain 2 = .ok (.lconst 0, 1) := by decide +kernel
theorem dX10_chain_3 : decode cX10_chain 3 = .ok (.ldc2_w 234, 3) := by decide +kernel
theorem dX10_chain_6 : decode cX10_chain 6 = .ok (.invokestatic 89, 3) := by decide +kernel
theorem dX10_chain_9 : decode cX10_chain 9 = .ok (.ifCond .eq 18, 3) := by decide +kernel
theorem dX10_chain_12 : decode cX10_chain 12 = .ok (.aload_n 0, 1) := by decide +kernel
theorem dX10_chain_13 : decode cX10_chain 13 = .ok (.getfield 187, 3) := by decide +kernel
theorem dX10_chain_16 : decode cX10_chain 16 = .ok (.ifCond .le 18, 3) := by decide +kernel
theorem dX10_chain_19 : decode cX10_chain 19 = .ok (.iload_n 1, 1) := by decide +kernel
theorem dX10_chain_20 : decode cX10_chain 20 = .ok (.aload_n 0, 1) := by decide +kernel
theorem dX10_chain_21 : decode cX10_chain 21 = .ok (.getfield 187, 3) := by decide +kernel
theorem dX10_chain_24 : decode cX10_chain 24 = .ok (.if_icmp .lt 10, 3) := by decide +kernel
theorem dX10_chain_27 : decode cX10_chain 27 = .ok (.aload_n 0, 1) := by decide +kernel
theorem dX10_chain_28 : decode cX10_chain 28 = .ok (.bipush (-2), 2) := by decide +kernel
theorem dX10_chain_30 : decode cX10_chain 30 = .ok (.invokevirtual 105, 3) := by decide +kernel
theorem dX10_chain_33 : decode cX10_chain 33 = .ok (.ireturn, 1) := by decide +kernel
theorem dX10_chain_34 : decode cX10_chain 34 = .ok (.aload_n 0, 1) := by decide +kernel
theorem dX10_chain_35 : decode cX10_chain 35 = .ok (.invokevirtual 286, 3) := by decide +kernel
theorem dX10_chain_38 : decode cX10_chain 38 = .ok (.ifCond .ne 8, 3) := by decide +kernel
theorem dX10_chain_41 : decode cX10_chain 41 = .ok (.aload_n 0, 1) := by decide +kernel
theorem dX10_chain_42 : decode cX10_chain 42 = .ok (.invokevirtual 239, 3) := by decide +kernel
theorem dX10_chain_45 : decode cX10_chain 45 = .ok (.ireturn, 1) := by decide +kernel
theorem dX10_chain_46 : decode cX10_chain 46 = .ok (.aload_n 0, 1) := by decide +kernel
theorem dX10_chain_47 : decode cX10_chain 47 = .ok (.invokevirtual 290, 3) := by decide +kernel
theorem dX10_chain_50 : decode cX10_chain 50 = .ok (.aload_n 0, 1) := by decide +kernel
theorem dX10_chain_51 : decode cX10_chain 51 = .ok (.getfield 83, 3) := by decide +kernel
theorem dX10_chain_54 : decode cX10_chain 54 = .ok (.iload_n 1, 1) := by decide +kernel
theorem dX10_chain_55 : decode cX10_chain 55 = .ok (.iaload, 1) := by decide +kernel
theorem dX10_chain_56 : decode cX10_chain 56 = .ok (.ireturn, 1) := by decide +kernel
theorem dX10_ways_0 : decode cX10_ways 0 = .ok (.aload_n 0, 1) := by decide +kernel
theorem dX10_ways_1 : decode cX10_ways 1 = .ok (.invokevirtual 286, 3) := by decide +kernel
theorem dX10_ways_4 : decode cX10_ways 4 = .ok (.ifCond .eq 10, 3) := by decide +kernel
theorem dX10_ways_7 : decode cX10_ways 7 = .ok (.aload_n 0, 1) := by decide +kernel
theorem dX10_ways_8 : decode cX10_ways 8 = .ok (.getfield 261, 3) := by decide +kernel
theorem dX10_ways_11 : decode cX10_ways 11 = .ok (.goto 7, 3) := by decide +kernel
theorem dX10_ways_14 : decode cX10_ways 14 = .ok (.aload_n 0, 1) := by decide +kernel
theorem dX10_ways_15 : decode cX10_ways 15 = .ok (.invokevirtual 239, 3) := by decide +kernel
theorem dX10_ways_18 : decode cX10_ways 18 = .ok (.ireturn, 1) := by decide +kernel
theorem dX10_next_0 : decode cX10_next 0 = .ok (.aload_n 0, 1) := by decide +kernel
theorem dX10_next_1 : decode cX10_next 1 = .ok (.invokevirtual 286, 3) := by decide +kernel
theorem dX10_next_4 : decode cX10_next 4 = .ok (.ifCond .eq 10, 3) := by decide +kernel
theorem dX10_next_7 : decode cX10_next 7 = .ok (.aload_n 0, 1) := by decide +kernel
theorem dX10_next_8 : decode cX10_next 8 = .ok (.getfield 255, 3) := by decide +kernel
theorem dX10_next_11 : decode cX10_next 11 = .ok (.goto 7, 3) := by decide +kernel
theorem dX10_next_14 : decode cX10_next 14 = .ok (.aload_n 0, 1) := by decide +kernel
theorem dX10_next_15 : decode cX10_next 15 = .ok (.invokevirtual 239, 3) := by decide +kernel
theorem dX10_next_18 : decode cX10_next 18 = .ok (.ireturn, 1) := by decide +kernel
theorem dX10_dearest_0 : decode cX10_dearest 0 = .ok (.aload_n 0, 1) := by decide +kernel
theorem dX10_dearest_1 : decode cX10_dearest 1 = .ok (.invokevirtual 286, 3) := by decide +kernel
theorem dX10_dearest_4 : decode cX10_dearest 4 = .ok (.ifCond .eq 10, 3) := by decide +kernel
theorem dX10_dearest_7 : decode cX10_dearest 7 = .ok (.aload_n 0, 1) := by decide +kernel
theorem dX10_dearest_8 : decode cX10_dearest 8 = .ok (.getfield 258, 3) := by decide +kernel
theorem dX10_dearest_11 : decode cX10_dearest 11 = .ok (.goto 7, 3) := by decide +kernel
theorem dX10_dearest_14 : decode cX10_dearest 14 = .ok (.aload_n 0, 1) := by decide +kernel
theorem dX10_dearest_15 : decode cX10_dearest 15 = .ok (.invokevirtual 239, 3) := by decide +kernel
theorem dX10_dearest_18 : decode cX10_dearest 18 = .ok (.ireturn, 1) := by decide +kernel
theorem dX10_without_0 : decode cX10_without 0 = .ok (.aload_n 0, 1) := by decide +kernel
theorem dX10_without_1 : decode cX10_without 1 = .ok (.iload_n 1, 1) := by decide +kernel
theorem dX10_without_2 : decode cX10_without 2 = .ok (.invokevirtual 137, 3) := by decide +kernel
theorem dX10_without_5 : decode cX10_without 5 = .ok (.ifCond .ne 10, 3) := by decide +kernel
theorem dX10_without_8 : decode cX10_without 8 = .ok (.aload_n 0, 1) := by decide +kernel
theorem dX10_without_9 : decode cX10_without 9 = .ok (.bipush (-2), 2) := by decide +kernel
theorem dX10_without_11 : decode cX10_without 11 = .ok (.invokevirtual 105, 3) := by decide +kernel
theorem dX10_without_14 : decode cX10_without 14 = .ok (.ireturn, 1) := by decide +kernel
theorem dX10_without_15 : decode cX10_without 15 = .ok (.aload_n 0, 1) := by decide +kernel
theorem dX10_without_16 : decode cX10_without 16 = .ok (.invokevirtual 286, 3) := by decide +kernel
theorem dX10_without_19 : decode cX10_without 19 = .ok (.ifCond .ne 8, 3) := by decide +kernel
theorem dX10_without_22 : decode cX10_without 22 = .ok (.aload_n 0, 1) := by decide +kernel
theorem dX10_without_23 : decode cX10_without 23 = .ok (.invokevirtual 239, 3) := by decide +kernel
theorem dX10_without_26 : decode cX10_without 26 = .ok (.ireturn, 1) := by decide +kernel
theorem dX10_without_27 : decode cX10_without 27 = .ok (.aload_n 0, 1) := by decide +kernel
theorem dX10_without_28 : decode cX10_without 28 = .ok (.iload_n 1, 1) := by decide +kernel
theorem dX10_without_29 : decode cX10_without 29 = .ok (.putfield 68, 3) := by decide +kernel
theorem dX10_without_32 : decode cX10_without 32 = .ok (.aload_n 0, 1) := by decide +kernel
theorem dX10_without_33 : decode cX10_without 33 = .ok (.aload_n 0, 1) := by decide +kernel
theorem dX10_without_34 : decode cX10_without 34 = .ok (.getfield 145, 3) := by decide +kernel
theorem dX10_without_37 : decode cX10_without 37 = .ok (.invokevirtual 283, 3) := by decide +kernel
theorem dX10_without_40 : decode cX10_without 40 = .ok (.istore_n 2, 1) := by decide +kernel
theorem dX10_without_41 : decode cX10_without 41 = .ok (.aload_n 0, 1) := by decide +kernel
theorem dX10_without_42 : decode cX10_without 42 = .ok (.iconst (-1), 1) := by decide +kernel
theorem dX10_without_43 : decode cX10_without 43 = .ok (.putfield 68, 3) := by decide +kernel
theorem dX10_without_46 : decode cX10_without 46 = .ok (.iload_n 2, 1) := by decide +kernel
theorem dX10_without_47 : decode cX10_without 47 = .ok (.ifCond .eq 10, 3) := by decide +kernel
theorem dX10_without_50 : decode cX10_without 50 = .ok (.aload_n 0, 1) := by decide +kernel
theorem dX10_without_51 : decode cX10_without 51 = .ok (.getfield 252, 3) := by decide +kernel
theorem dX10_without_54 : decode cX10_without 54 = .ok (.goto 7, 3) := by decide +kernel
theorem dX10_without_57 : decode cX10_without 57 = .ok (.aload_n 0, 1) := by decide +kernel
theorem dX10_without_58 : decode cX10_without 58 = .ok (.invokevirtual 239, 3) := by decide +kernel
theorem dX10_without_61 : decode cX10_without 61 = .ok (.ireturn, 1) := by decide +kernel
theorem dX10_about_0 : decode cX10_about 0 = .ok (.iload_n 1, 1) := by decide +kernel
theorem dX10_about_1 : decode cX10_about 1 = .ok (.i2l, 1) := by decide +kernel
theorem dX10_about_2 : decode cX10_about 2 = .ok (.lconst 0, 1) := by decide +kernel
theorem dX10_about_3 : decode cX10_about 3 = .ok (.ldc2_w 103, 3) := by decide +kernel
theorem dX10_about_6 : decode cX10_about 6 = .ok (.invokestatic 89, 3) := by decide +kernel
theorem dX10_about_9 : decode cX10_about 9 = .ok (.ifCond .ne 10, 3) := by decide +kernel
theorem dX10_about_12 : decode cX10_about 12 = .ok (.aload_n 0, 1) := by decide +kernel
theorem dX10_about_13 : decode cX10_about 13 = .ok (.bipush (-2), 2) := by decide +kernel
theorem dX10_about_15 : decode cX10_about 15 = .ok (.invokevirtual 105, 3) := by decide +kernel
theorem dX10_about_18 : decode cX10_about 18 = .ok (.ireturn, 1) := by decide +kernel
theorem dX10_about_19 : decode cX10_about 19 = .ok (.aload_n 0, 1) := by decide +kernel
theorem dX10_about_20 : decode cX10_about 20 = .ok (.invokevirtual 286, 3) := by decide +kernel
theorem dX10_about_23 : decode cX10_about 23 = .ok (.ifCond .ne 8, 3) := by decide +kernel
theorem dX10_about_26 : decode cX10_about 26 = .ok (.aload_n 0, 1) := by decide +kernel
theorem dX10_about_27 : decode cX10_about 27 = .ok (.invokevirtual 239, 3) := by decide +kernel
theorem dX10_about_30 : decode cX10_about 30 = .ok (.ireturn, 1) := by decide +kernel
theorem dX10_about_31 : decode cX10_about 31 = .ok (.aload_n 0, 1) := by decide +kernel
theorem dX10_about_32 : decode cX10_about 32 = .ok (.invokevirtual 290, 3) := by decide +kernel
theorem dX10_about_35 : decode cX10_about 35 = .ok (.iconst 0, 1) := by decide +kernel
theorem dX10_about_36 : decode cX10_about 36 = .ok (.istore_n 2, 1) := by decide +kernel
theorem dX10_about_37 : decode cX10_about 37 = .ok (.iconst 0, 1) := by decide +kernel
theorem dX10_about_38 : decode cX10_about 38 = .ok (.istore_n 3, 1) := by decide +kernel
theorem dX10_about_39 : decode cX10_about 39 = .ok (.iconst 0, 1) := by decide +kernel
theorem dX10_about_40 : decode cX10_about 40 = .ok (.istore 4, 2) := by decide +kernel
theorem dX10_about_42 : decode cX10_about 42 = .ok (.iconst 0, 1) := by decide +kernel
theorem dX10_about_43 : decode cX10_about 43 = .ok (.istore 5, 2) := by decide +kernel
theorem dX10_about_45 : decode cX10_about 45 = .ok (.iconst 0, 1) := by decide +kernel
theorem dX10_about_46 : decode cX10_about 46 = .ok (.istore 6, 2) := by decide +kernel
theorem dX10_about_48 : decode cX10_about 48 = .ok (.iload 6, 2) := by decide +kernel
theorem dX10_about_50 : decode cX10_about 50 = .ok (.aload_n 0, 1) := by decide +kernel
theorem dX10_about_51 : decode cX10_about 51 = .ok (.getfield 187, 3) := by decide +kernel
theorem dX10_about_54 : decode cX10_about 54 = .ok (.if_icmp .ge 119, 3) := by decide +kernel
theorem dX10_about_57 : decode cX10_about 57 = .ok (.iload_n 3, 1) := by decide +kernel
theorem dX10_about_58 : decode cX10_about 58 = .ok (.aload_n 0, 1) := by decide +kernel
theorem dX10_about_59 : decode cX10_about 59 = .ok (.aload_n 0, 1) := by decide +kernel
theorem dX10_about_60 : decode cX10_about 60 = .ok (.getfield 145, 3) := by decide +kernel
theorem dX10_about_63 : decode cX10_about 63 = .ok (.aload_n 0, 1) := by decide +kernel
theorem dX10_about_64 : decode cX10_about 64 = .ok (.getfield 83, 3) := by decide +kernel
theorem dX10_about_67 : decode cX10_about 67 = .ok (.iload 6, 2) := by decide +kernel
theorem dX10_about_69 : decode cX10_about 69 = .ok (.iaload, 1) := by decide +kernel
theorem dX10_about_70 : decode cX10_about 70 = .ok (.iload 6, 2) := by decide +kernel
theorem dX10_about_72 : decode cX10_about 72 = .ok (.invokevirtual 245, 3) := by decide +kernel
theorem dX10_about_75 : decode cX10_about 75 = .ok (.iadd, 1) := by decide +kernel
theorem dX10_about_76 : decode cX10_about 76 = .ok (.istore_n 3, 1) := by decide +kernel
theorem dX10_about_77 : decode cX10_about 77 = .ok (.iload 6, 2) := by decide +kernel
theorem dX10_about_79 : decode cX10_about 79 = .ok (.ifCond .ne 7, 3) := by decide +kernel
theorem dX10_about_82 : decode cX10_about 82 = .ok (.iconst 0, 1) := by decide +kernel
theorem dX10_about_83 : decode cX10_about 83 = .ok (.goto 23, 3) := by decide +kernel
theorem dX10_about_86 : decode cX10_about 86 = .ok (.aload_n 0, 1) := by decide +kernel
theorem dX10_about_87 : decode cX10_about 87 = .ok (.aload_n 0, 1) := by decide +kernel
theorem dX10_about_88 : decode cX10_about 88 = .ok (.getfield 83, 3) := by decide +kernel
theorem dX10_about_91 : decode cX10_about 91 = .ok (.iload 6, 2) := by decide +kernel
theorem dX10_about_93 : decode cX10_about 93 = .ok (.iconst 1, 1) := by decide +kernel
theorem dX10_about_94 : decode cX10_about 94 = .ok (.isub, 1) := by decide +kernel
theorem dX10_about_95 : decode cX10_about 95 = .ok (.iaload, 1) := by decide +kernel
theorem dX10_about_96 : decode cX10_about 96 = .ok (.aload_n 0, 1) := by decide +kernel
theorem dX10_about_97 : decode cX10_about 97 = .ok (.getfield 83, 3) := by decide +kernel
theorem dX10_about_100 : decode cX10_about 100 = .ok (.iload 6, 2) := by decide +kernel
theorem dX10_about_102 : decode cX10_about 102 = .ok (.iaload, 1) := by decide +kernel
theorem dX10_about_103 : decode cX10_about 103 = .ok (.invokevirtual 249, 3) := by decide +kernel
theorem dX10_about_106 : decode cX10_about 106 = .ok (.istore 7, 2) := by decide +kernel
theorem dX10_about_108 : decode cX10_about 108 = .ok (.iload_n 2, 1) := by decide +kernel
theorem dX10_about_109 : decode cX10_about 109 = .ok (.iload 6, 2) := by decide +kernel
theorem dX10_about_111 : decode cX10_about 111 = .ok (.ifCond .le 30, 3) := by decide +kernel
theorem dX10_about_114 : decode cX10_about 114 = .ok (.aload_n 0, 1) := by decide +kernel
theorem dX10_about_115 : decode cX10_about 115 = .ok (.aload_n 0, 1) := by decide +kernel
theorem dX10_about_116 : decode cX10_about 116 = .ok (.getfield 83, 3) := by decide +kernel
theorem dX10_about_119 : decode cX10_about 119 = .ok (.iload 6, 2) := by decide +kernel
theorem dX10_about_121 : decode cX10_about 121 = .ok (.iconst 1, 1) := by decide +kernel
theorem dX10_about_122 : decode cX10_about 122 = .ok (.isub, 1) := by decide +kernel
theorem dX10_about_123 : decode cX10_about 123 = .ok (.iaload, 1) := by decide +kernel
theorem dX10_about_124 : decode cX10_about 124 = .ok (.invokevirtual 140, 3) := by decide +kernel
theorem dX10_about_127 : decode cX10_about 127 = .ok (.aload_n 0, 1) := by decide +kernel
theorem dX10_about_128 : decode cX10_about 128 = .ok (.getfield 83, 3) := by decide +kernel
theorem dX10_about_131 : decode cX10_about 131 = .ok (.iload 6, 2) := by decide +kernel
theorem dX10_about_133 : decode cX10_about 133 = .ok (.iaload, 1) := by decide +kernel
theorem dX10_about_134 : decode cX10_about 134 = .ok (.if_icmp .ne 7, 3) := by decide +kernel
theorem dX10_about_137 : decode cX10_about 137 = .ok (.iconst 1, 1) := by decide +kernel
theorem dX10_about_138 : decode cX10_about 138 = .ok (.goto 4, 3) := by decide +kernel
theorem dX10_about_141 : decode cX10_about 141 = .ok (.iconst 0, 1) := by decide +kernel
theorem dX10_about_142 : decode cX10_about 142 = .ok (.iadd, 1) := by decide +kernel
theorem dX10_about_143 : decode cX10_about 143 = .ok (.istore_n 2, 1) := by decide +kernel
theorem dX10_about_144 : decode cX10_about 144 = .ok (.iload 4, 2) := by decide +kernel
theorem dX10_about_146 : decode cX10_about 146 = .ok (.iload 7, 2) := by decide +kernel
theorem dX10_about_148 : decode cX10_about 148 = .ok (.iadd, 1) := by decide +kernel
theorem dX10_about_149 : decode cX10_about 149 = .ok (.istore 4, 2) := by decide +kernel
theorem dX10_about_151 : decode cX10_about 151 = .ok (.iload 7, 2) := by decide +kernel
theorem dX10_about_153 : decode cX10_about 153 = .ok (.iload 5, 2) := by decide +kernel
theorem dX10_about_155 : decode cX10_about 155 = .ok (.if_icmp .le 8, 3) := by decide +kernel
theorem dX10_about_158 : decode cX10_about 158 = .ok (.iload 7, 2) := by decide +kernel
theorem dX10_about_160 : decode cX10_about 160 = .ok (.goto 5, 3) := by decide +kernel
theorem dX10_about_163 : decode cX10_about 163 = .ok (.iload 5, 2) := by decide +kernel
theorem dX10_about_165 : decode cX10_about 165 = .ok (.istore 5, 2) := by decide +kernel
theorem dX10_about_167 : decode cX10_about 167 = .ok (.iinc 6 1, 3) := by decide +kernel
theorem dX10_about_170 : decode cX10_about 170 = .ok (.goto (-122), 3) := by decide +kernel
theorem dX10_about_173 : decode cX10_about 173 = .ok (.iload_n 1, 1) := by decide +kernel
theorem dX10_about_174 : decode cX10_about 174 = .ok (.ifCond .ne 7, 3) := by decide +kernel
theorem dX10_about_177 : decode cX10_about 177 = .ok (.iload_n 2, 1) := by decide +kernel
theorem dX10_about_178 : decode cX10_about 178 = .ok (.goto 24, 3) := by decide +kernel
theorem dX10_about_181 : decode cX10_about 181 = .ok (.iload_n 1, 1) := by decide +kernel
theorem dX10_about_182 : decode cX10_about 182 = .ok (.iconst 1, 1) := by decide +kernel
theorem dX10_about_183 : decode cX10_about 183 = .ok (.if_icmp .ne 7, 3) := by decide +kernel
theorem dX10_about_186 : decode cX10_about 186 = .ok (.iload_n 3, 1) := by decide +kernel
theorem dX10_about_187 : decode cX10_about 187 = .ok (.goto 15, 3) := by decide +kernel
theorem dX10_about_190 : decode cX10_about 190 = .ok (.iload_n 1, 1) := by decide +kernel
theorem dX10_about_191 : decode cX10_about 191 = .ok (.iconst 2, 1) := by decide +kernel
theorem dX10_about_192 : decode cX10_about 192 = .ok (.if_icmp .ne 8, 3) := by decide +kernel
theorem dX10_about_195 : decode cX10_about 195 = .ok (.iload 4, 2) := by decide +kernel
theorem dX10_about_197 : decode cX10_about 197 = .ok (.goto 5, 3) := by decide +kernel
theorem dX10_about_200 : decode cX10_about 200 = .ok (.iload 5, 2) := by decide +kernel
theorem dX10_about_202 : decode cX10_about 202 = .ok (.ireturn, 1) := by decide +kernel
theorem dX10_cheapest_0 : decode cX10_cheapest 0 = .ok (.iload_n 1, 1) := by decide +kernel
theorem dX10_cheapest_1 : decode cX10_cheapest 1 = .ok (.i2l, 1) := by decide +kernel
theorem dX10_cheapest_2 : decode cX10_cheapest 2 = .ok (.lconst 0, 1) := by decide +kernel
theorem dX10_cheapest_3 : decode cX10_cheapest 3 = .ok (.lconst 1, 1) := by decide +kernel
theorem dX10_cheapest_4 : decode cX10_cheapest 4 = .ok (.invokestatic 89, 3) := by decide +kernel
theorem dX10_cheapest_7 : decode cX10_cheapest 7 = .ok (.ifCond .ne 10, 3) := by decide +kernel
theorem dX10_cheapest_10 : decode cX10_cheapest 10 = .ok (.aload_n 0, 1) := by decide +kernel
theorem dX10_cheapest_11 : decode cX10_cheapest 11 = .ok (.bipush (-2), 2) := by decide +kernel
theorem dX10_cheapest_13 : decode cX10_cheapest 13 = .ok (.invokevirtual 105, 3) := by decide +kernel
theorem dX10_cheapest_16 : decode cX10_cheapest 16 = .ok (.ireturn, 1) := by decide +kernel
theorem dX10_cheapest_17 : decode cX10_cheapest 17 = .ok (.aload_n 0, 1) := by decide +kernel
theorem dX10_cheapest_18 : decode cX10_cheapest 18 = .ok (.invokevirtual 286, 3) := by decide +kernel
theorem dX10_cheapest_21 : decode cX10_cheapest 21 = .ok (.ifCond .ne 8, 3) := by decide +kernel
theorem dX10_cheapest_24 : decode cX10_cheapest 24 = .ok (.aload_n 0, 1) := by decide +kernel
theorem dX10_cheapest_25 : decode cX10_cheapest 25 = .ok (.invokevirtual 239, 3) := by decide +kernel
theorem dX10_cheapest_28 : decode cX10_cheapest 28 = .ok (.ireturn, 1) := by decide +kernel
theorem dX10_cheapest_29 : decode cX10_cheapest 29 = .ok (.iconst 0, 1) := by decide +kernel
theorem dX10_cheapest_30 : decode cX10_cheapest 30 = .ok (.istore_n 2, 1) := by decide +kernel
theorem dX10_cheapest_31 : decode cX10_cheapest 31 = .ok (.iconst (-1), 1) := by decide +kernel
theorem dX10_cheapest_32 : decode cX10_cheapest 32 = .ok (.istore_n 3, 1) := by decide +kernel
theorem dX10_cheapest_33 : decode cX10_cheapest 33 = .ok (.iconst 0, 1) := by decide +kernel
theorem dX10_cheapest_34 : decode cX10_cheapest 34 = .ok (.istore 4, 2) := by decide +kernel
theorem dX10_cheapest_36 : decode cX10_cheapest 36 = .ok (.iload 4, 2) := by decide +kernel
theorem dX10_cheapest_38 : decode cX10_cheapest 38 = .ok (.iconst 5, 1) := by decide +kernel
theorem dX10_cheapest_39 : decode cX10_cheapest 39 = .ok (.if_icmp .ge 63, 3) := by decide +kernel
theorem dX10_cheapest_42 : decode cX10_cheapest 42 = .ok (.aload_n 0, 1) := by decide +kernel
theorem dX10_cheapest_43 : decode cX10_cheapest 43 = .ok (.iload 4, 2) := by decide +kernel
theorem dX10_cheapest_45 : decode cX10_cheapest 45 = .ok (.invokevirtual 283, 3) := by decide +kernel
theorem dX10_cheapest_48 : decode cX10_cheapest 48 = .ok (.istore 5, 2) := by decide +kernel
theorem dX10_cheapest_50 : decode cX10_cheapest 50 = .ok (.iload_n 3, 1) := by decide +kernel
theorem dX10_cheapest_51 : decode cX10_cheapest 51 = .ok (.iconst (-1), 1) := by decide +kernel
theorem dX10_cheapest_52 : decode cX10_cheapest 52 = .ok (.if_icmp .eq 11, 3) := by decide +kernel
theorem dX10_cheapest_55 : decode cX10_cheapest 55 = .ok (.aload_n 0, 1) := by decide +kernel
theorem dX10_cheapest_56 : decode cX10_cheapest 56 = .ok (.getfield 252, 3) := by decide +kernel
theorem dX10_cheapest_59 : decode cX10_cheapest 59 = .ok (.iload_n 3, 1) := by decide +kernel
theorem dX10_cheapest_60 : decode cX10_cheapest 60 = .ok (.if_icmp .ge 7, 3) := by decide +kernel
theorem dX10_cheapest_63 : decode cX10_cheapest 63 = .ok (.iconst 1, 1) := by decide +kernel
theorem dX10_cheapest_64 : decode cX10_cheapest 64 = .ok (.goto 4, 3) := by decide +kernel
theorem dX10_cheapest_67 : decode cX10_cheapest 67 = .ok (.iconst 0, 1) := by decide +kernel
theorem dX10_cheapest_68 : decode cX10_cheapest 68 = .ok (.istore 6, 2) := by decide +kernel
theorem dX10_cheapest_70 : decode cX10_cheapest 70 = .ok (.iload 6, 2) := by decide +kernel
theorem dX10_cheapest_72 : decode cX10_cheapest 72 = .ok (.ifCond .eq 8, 3) := by decide +kernel
theorem dX10_cheapest_75 : decode cX10_cheapest 75 = .ok (.iload 4, 2) := by decide +kernel
theorem dX10_cheapest_77 : decode cX10_cheapest 77 = .ok (.goto 4, 3) := by decide +kernel
theorem dX10_cheapest_80 : decode cX10_cheapest 80 = .ok (.iload_n 2, 1) := by decide +kernel
theorem dX10_cheapest_81 : decode cX10_cheapest 81 = .ok (.istore_n 2, 1) := by decide +kernel
theorem dX10_cheapest_82 : decode cX10_cheapest 82 = .ok (.iload 6, 2) := by decide +kernel
theorem dX10_cheapest_84 : decode cX10_cheapest 84 = .ok (.ifCond .eq 10, 3) := by decide +kernel
theorem dX10_cheapest_87 : decode cX10_cheapest 87 = .ok (.aload_n 0, 1) := by decide +kernel
theorem dX10_cheapest_88 : decode cX10_cheapest 88 = .ok (.getfield 252, 3) := by decide +kernel
theorem dX10_cheapest_91 : decode cX10_cheapest 91 = .ok (.goto 4, 3) := by decide +kernel
theorem dX10_cheapest_94 : decode cX10_cheapest 94 = .ok (.iload_n 3, 1) := by decide +kernel
theorem dX10_cheapest_95 : decode cX10_cheapest 95 = .ok (.istore_n 3, 1) := by decide +kernel
theorem dX10_cheapest_96 : decode cX10_cheapest 96 = .ok (.iinc 4 1, 3) := by decide +kernel
theorem dX10_cheapest_99 : decode cX10_cheapest 99 = .ok (.goto (-63), 3) := by decide +kernel
theorem dX10_cheapest_102 : decode cX10_cheapest 102 = .ok (.iload_n 1, 1) := by decide +kernel
theorem dX10_cheapest_103 : decode cX10_cheapest 103 = .ok (.ifCond .ne 7, 3) := by decide +kernel
theorem dX10_cheapest_106 : decode cX10_cheapest 106 = .ok (.iload_n 2, 1) := by decide +kernel
theorem dX10_cheapest_107 : decode cX10_cheapest 107 = .ok (.goto 4, 3) := by decide +kernel
theorem dX10_cheapest_110 : decode cX10_cheapest 110 = .ok (.iload_n 3, 1) := by decide +kernel
theorem dX10_cheapest_111 : decode cX10_cheapest 111 = .ok (.ireturn, 1) := by decide +kernel
theorem dX10_toldOf_0 : decode cX10_toldOf 0 = .ok (.iload_n 1, 1) := by decide +kernel
theorem dX10_toldOf_1 : decode cX10_toldOf 1 = .ok (.tableswitch 51 3 6 #[31, 36, 41, 46], 31) := by decide +kernel
theorem dX10_toldOf_32 : decode cX10_toldOf 32 = .ok (.aload_n 0, 1) := by decide +kernel
theorem dX10_toldOf_33 : decode cX10_toldOf 33 = .ok (.getfield 150, 3) := by decide +kernel
theorem dX10_toldOf_36 : decode cX10_toldOf 36 = .ok (.ireturn, 1) := by decide +kernel
theorem dX10_toldOf_37 : decode cX10_toldOf 37 = .ok (.aload_n 0, 1) := by decide +kernel
theorem dX10_toldOf_38 : decode cX10_toldOf 38 = .ok (.getfield 86, 3) := by decide +kernel
theorem dX10_toldOf_41 : decode cX10_toldOf 41 = .ok (.ireturn, 1) := by decide +kernel
theorem dX10_toldOf_42 : decode cX10_toldOf 42 = .ok (.aload_n 0, 1) := by decide +kernel
theorem dX10_toldOf_43 : decode cX10_toldOf 43 = .ok (.getfield 187, 3) := by decide +kernel
theorem dX10_toldOf_46 : decode cX10_toldOf 46 = .ok (.ireturn, 1) := by decide +kernel
theorem dX10_toldOf_47 : decode cX10_toldOf 47 = .ok (.aload_n 0, 1) := by decide +kernel
theorem dX10_toldOf_48 : decode cX10_toldOf 48 = .ok (.getfield 145, 3) := by decide +kernel
theorem dX10_toldOf_51 : decode cX10_toldOf 51 = .ok (.ireturn, 1) := by decide +kernel
theorem dX10_toldOf_52 : decode cX10_toldOf 52 = .ok (.aload_n 0, 1) := by decide +kernel
theorem dX10_toldOf_53 : decode cX10_toldOf 53 = .ok (.getfield 35, 3) := by decide +kernel
theorem dX10_toldOf_56 : decode cX10_toldOf 56 = .ok (.iload_n 1, 1) := by decide +kernel
theorem dX10_toldOf_57 : decode cX10_toldOf 57 = .ok (.iaload, 1) := by decide +kernel
theorem dX10_toldOf_58 : decode cX10_toldOf 58 = .ok (.ireturn, 1) := by decide +kernel
theorem dX10_told_0 : decode cX10_told 0 = .ok (.iload_n 1, 1) := by decide +kernel
theorem dX10_told_1 : decode cX10_told 1 = .ok (.i2l, 1) := by decide +kernel
theorem dX10_told_2 : decode cX10_told 2 = .ok (.lconst 0, 1) := by decide +kernel
theorem dX10_told_3 : decode cX10_told 3 = .ok (.ldc2_w 99, 3) := by decide +kernel
theorem dX10_told_6 : decode cX10_told 6 = .ok (.invokestatic 89, 3) := by decide +kernel
theorem dX10_told_9 : decode cX10_told 9 = .ok (.ifCond .eq 11, 3) := by decide +kernel
theorem dX10_told_12 : decode cX10_told 12 = .ok (.aload_n 0, 1) := by decide +kernel
theorem dX10_told_13 : decode cX10_told 13 = .ok (.iload_n 1, 1) := by decide +kernel
theorem dX10_told_14 : decode cX10_told 14 = .ok (.invokevirtual 293, 3) := by decide +kernel
theorem dX10_told_17 : decode cX10_told 17 = .ok (.goto 9, 3) := by decide +kernel
theorem dX10_told_20 : decode cX10_told 20 = .ok (.aload_n 0, 1) := by decide +kernel
theorem dX10_told_21 : decode cX10_told 21 = .ok (.bipush (-2), 2) := by decide +kernel
theorem dX10_told_23 : decode cX10_told 23 = .ok (.invokevirtual 105, 3) := by decide +kernel
theorem dX10_told_26 : decode cX10_told 26 = .ok (.ireturn, 1) := by decide +kernel
theorem dX10_sums_0 : decode cX10_sums 0 = .ok (.lload_n 0, 1) := by decide +kernel
theorem dX10_sums_1 : decode cX10_sums 1 = .ok (.lstore 4, 2) := by decide +kernel
theorem dX10_sums_3 : decode cX10_sums 3 = .ok (.iconst 0, 1) := by decide +kernel
theorem dX10_sums_4 : decode cX10_sums 4 = .ok (.istore 6, 2) := by decide +kernel
theorem dX10_sums_6 : decode cX10_sums 6 = .ok (.iload 6, 2) := by decide +kernel
theorem dX10_sums_8 : decode cX10_sums 8 = .ok (.iload_n 3, 1) := by decide +kernel
theorem dX10_sums_9 : decode cX10_sums 9 = .ok (.if_icmp .ge 23, 3) := by decide +kernel
theorem dX10_sums_12 : decode cX10_sums 12 = .ok (.ldc2_w 296, 3) := by decide +kernel
theorem dX10_sums_15 : decode cX10_sums 15 = .ok (.lload 4, 2) := by decide +kernel
theorem dX10_sums_17 : decode cX10_sums 17 = .ok (.lmul, 1) := by decide +kernel
theorem dX10_sums_18 : decode cX10_sums 18 = .ok (.aload_n 2, 1) := by decide +kernel
theorem dX10_sums_19 : decode cX10_sums 19 = .ok (.iload 6, 2) := by decide +kernel
theorem dX10_sums_21 : decode cX10_sums 21 = .ok (.iaload, 1) := by decide +kernel
theorem dX10_sums_22 : decode cX10_sums 22 = .ok (.i2l, 1) := by decide +kernel
theorem dX10_sums_23 : decode cX10_sums 23 = .ok (.ladd, 1) := by decide +kernel
theorem dX10_sums_24 : decode cX10_sums 24 = .ok (.lstore 4, 2) := by decide +kernel
theorem dX10_sums_26 : decode cX10_sums 26 = .ok (.iinc 6 1, 3) := by decide +kernel
theorem dX10_sums_29 : decode cX10_sums 29 = .ok (.goto (-23), 3) := by decide +kernel
theorem dX10_sums_32 : decode cX10_sums 32 = .ok (.lload 4, 2) := by decide +kernel
theorem dX10_sums_34 : decode cX10_sums 34 = .ok (.lreturn, 1) := by decide +kernel
theorem dX10_digest_0 : decode cX10_digest 0 = .ok (.ldc2_w 298, 3) := by decide +kernel
theorem dX10_digest_3 : decode cX10_digest 3 = .ok (.lstore_n 1, 1) := by decide +kernel
theorem dX10_digest_4 : decode cX10_digest 4 = .ok (.iconst 0, 1) := by decide +kernel
theorem dX10_digest_5 : decode cX10_digest 5 = .ok (.istore_n 3, 1) := by decide +kernel
theorem dX10_digest_6 : decode cX10_digest 6 = .ok (.iload_n 3, 1) := by decide +kernel
theorem dX10_digest_7 : decode cX10_digest 7 = .ok (.bipush 7, 2) := by decide +kernel
theorem dX10_digest_9 : decode cX10_digest 9 = .ok (.if_icmp .ge 22, 3) := by decide +kernel
theorem dX10_digest_12 : decode cX10_digest 12 = .ok (.ldc2_w 296, 3) := by decide +kernel
theorem dX10_digest_15 : decode cX10_digest 15 = .ok (.lload_n 1, 1) := by decide +kernel
theorem dX10_digest_16 : decode cX10_digest 16 = .ok (.lmul, 1) := by decide +kernel
theorem dX10_digest_17 : decode cX10_digest 17 = .ok (.aload_n 0, 1) := by decide +kernel
theorem dX10_digest_18 : decode cX10_digest 18 = .ok (.iload_n 3, 1) := by decide +kernel
theorem dX10_digest_19 : decode cX10_digest 19 = .ok (.invokevirtual 293, 3) := by decide +kernel
theorem dX10_digest_22 : decode cX10_digest 22 = .ok (.i2l, 1) := by decide +kernel
theorem dX10_digest_23 : decode cX10_digest 23 = .ok (.ladd, 1) := by decide +kernel
theorem dX10_digest_24 : decode cX10_digest 24 = .ok (.lstore_n 1, 1) := by decide +kernel
theorem dX10_digest_25 : decode cX10_digest 25 = .ok (.iinc 3 1, 3) := by decide +kernel
theorem dX10_digest_28 : decode cX10_digest 28 = .ok (.goto (-22), 3) := by decide +kernel
theorem dX10_digest_31 : decode cX10_digest 31 = .ok (.lload_n 1, 1) := by decide +kernel
theorem dX10_digest_32 : decode cX10_digest 32 = .ok (.aload_n 0, 1) := by decide +kernel
theorem dX10_digest_33 : decode cX10_digest 33 = .ok (.getfield 7, 3) := by decide +kernel
theorem dX10_digest_36 : decode cX10_digest 36 = .ok (.bipush 6, 2) := by decide +kernel
theorem dX10_digest_38 : decode cX10_digest 38 = .ok (.aload_n 0, 1) := by decide +kernel
theorem dX10_digest_39 : decode cX10_digest 39 = .ok (.getfield 86, 3) := by decide +kernel
theorem dX10_digest_42 : decode cX10_digest 42 = .ok (.imul, 1) := by decide +kernel
theorem dX10_digest_43 : decode cX10_digest 43 = .ok (.invokestatic 300, 3) := by decide +kernel
theorem dX10_digest_46 : decode cX10_digest 46 = .ok (.lstore_n 1, 1) := by decide +kernel
theorem dX10_digest_47 : decode cX10_digest 47 = .ok (.lload_n 1, 1) := by decide +kernel
theorem dX10_digest_48 : decode cX10_digest 48 = .ok (.aload_n 0, 1) := by decide +kernel
theorem dX10_digest_49 : decode cX10_digest 49 = .ok (.getfield 16, 3) := by decide +kernel
theorem dX10_digest_52 : decode cX10_digest 52 = .ok (.bipush 6, 2) := by decide +kernel
theorem dX10_digest_54 : decode cX10_digest 54 = .ok (.invokestatic 300, 3) := by decide +kernel
theorem dX10_digest_57 : decode cX10_digest 57 = .ok (.lstore_n 1, 1) := by decide +kernel
theorem dX10_digest_58 : decode cX10_digest 58 = .ok (.lload_n 1, 1) := by decide +kernel
theorem dX10_digest_59 : decode cX10_digest 59 = .ok (.aload_n 0, 1) := by decide +kernel
theorem dX10_digest_60 : decode cX10_digest 60 = .ok (.getfield 13, 3) := by decide +kernel
theorem dX10_digest_63 : decode cX10_digest 63 = .ok (.iconst 3, 1) := by decide +kernel
theorem dX10_digest_64 : decode cX10_digest 64 = .ok (.aload_n 0, 1) := by decide +kernel
theorem dX10_digest_65 : decode cX10_digest 65 = .ok (.getfield 187, 3) := by decide +kernel
theorem dX10_digest_68 : decode cX10_digest 68 = .ok (.imul, 1) := by decide +kernel
theorem dX10_digest_69 : decode cX10_digest 69 = .ok (.invokestatic 300, 3) := by decide +kernel
theorem dX10_digest_72 : decode cX10_digest 72 = .ok (.lstore_n 1, 1) := by decide +kernel
theorem dX10_digest_73 : decode cX10_digest 73 = .ok (.ldc2_w 296, 3) := by decide +kernel
theorem dX10_digest_76 : decode cX10_digest 76 = .ok (.ldc2_w 296, 3) := by decide +kernel
theorem dX10_digest_79 : decode cX10_digest 79 = .ok (.lload_n 1, 1) := by decide +kernel
theorem dX10_digest_80 : decode cX10_digest 80 = .ok (.lmul, 1) := by decide +kernel
theorem dX10_digest_81 : decode cX10_digest 81 = .ok (.aload_n 0, 1) := by decide +kernel
theorem dX10_digest_82 : decode cX10_digest 82 = .ok (.getfield 31, 3) := by decide +kernel
theorem dX10_digest_85 : decode cX10_digest 85 = .ok (.i2l, 1) := by decide +kernel
theorem dX10_digest_86 : decode cX10_digest 86 = .ok (.ladd, 1) := by decide +kernel
theorem dX10_digest_87 : decode cX10_digest 87 = .ok (.lmul, 1) := by decide +kernel
theorem dX10_digest_88 : decode cX10_digest 88 = .ok (.aload_n 0, 1) := by decide +kernel
theorem dX10_digest_89 : decode cX10_digest 89 = .ok (.getfield 190, 3) := by decide +kernel
theorem dX10_digest_92 : decode cX10_digest 92 = .ok (.i2l, 1) := by decide +kernel
theorem dX10_digest_93 : decode cX10_digest 93 = .ok (.ladd, 1) := by decide +kernel
theorem dX10_digest_94 : decode cX10_digest 94 = .ok (.lstore_n 1, 1) := by decide +kernel
theorem dX10_digest_95 : decode cX10_digest 95 = .ok (.aload_n 0, 1) := by decide +kernel
theorem dX10_digest_96 : decode cX10_digest 96 = .ok (.invokevirtual 286, 3) := by decide +kernel
theorem dX10_digest_99 : decode cX10_digest 99 = .ok (.ifCond .ne 11, 3) := by decide +kernel
theorem dX10_digest_102 : decode cX10_digest 102 = .ok (.ldc2_w 296, 3) := by decide +kernel
theorem dX10_digest_105 : decode cX10_digest 105 = .ok (.lload_n 1, 1) := by decide +kernel
theorem dX10_digest_106 : decode cX10_digest 106 = .ok (.lmul, 1) := by decide +kernel
theorem dX10_digest_107 : decode cX10_digest 107 = .ok (.lconst 1, 1) := by decide +kernel
theorem dX10_digest_108 : decode cX10_digest 108 = .ok (.lsub, 1) := by decide +kernel
theorem dX10_digest_109 : decode cX10_digest 109 = .ok (.lreturn, 1) := by decide +kernel
theorem dX10_digest_110 : decode cX10_digest 110 = .ok (.aload_n 0, 1) := by decide +kernel
theorem dX10_digest_111 : decode cX10_digest 111 = .ok (.getfield 252, 3) := by decide +kernel
theorem dX10_digest_114 : decode cX10_digest 114 = .ok (.istore_n 3, 1) := by decide +kernel
theorem dX10_digest_115 : decode cX10_digest 115 = .ok (.aload_n 0, 1) := by decide +kernel
theorem dX10_digest_116 : decode cX10_digest 116 = .ok (.invokevirtual 290, 3) := by decide +kernel
theorem dX10_digest_119 : decode cX10_digest 119 = .ok (.ldc2_w 296, 3) := by decide +kernel
theorem dX10_digest_122 : decode cX10_digest 122 = .ok (.lload_n 1, 1) := by decide +kernel
theorem dX10_digest_123 : decode cX10_digest 123 = .ok (.lmul, 1) := by decide +kernel
theorem dX10_digest_124 : decode cX10_digest 124 = .ok (.iload_n 3, 1) := by decide +kernel
theorem dX10_digest_125 : decode cX10_digest 125 = .ok (.i2l, 1) := by decide +kernel
theorem dX10_digest_126 : decode cX10_digest 126 = .ok (.ladd, 1) := by decide +kernel
theorem dX10_digest_127 : decode cX10_digest 127 = .ok (.aload_n 0, 1) := by decide +kernel
theorem dX10_digest_128 : decode cX10_digest 128 = .ok (.getfield 83, 3) := by decide +kernel
theorem dX10_digest_131 : decode cX10_digest 131 = .ok (.aload_n 0, 1) := by decide +kernel
theorem dX10_digest_132 : decode cX10_digest 132 = .ok (.getfield 187, 3) := by decide +kernel
theorem dX10_digest_135 : decode cX10_digest 135 = .ok (.invokestatic 300, 3) := by decide +kernel
theorem dX10_digest_138 : decode cX10_digest 138 = .ok (.lreturn, 1) := by decide +kernel
end
section
theorem dJ13_bitCount_95d88_0 : decode cJ13_bitCount_95d88 0 = .ok (.lload_n 0, 1) := by decide +kernel
theorem dJ13_bitCount_95d88_1 : decode cJ13_bitCount_95d88 1 = .ok (.lload_n 0, 1) := by decide +kernel
theorem dJ13_bitCount_95d88_2 : decode cJ13_bitCount_95d88 2 = .ok (.iconst 1, 1) := by decide +kernel
theorem dJ13_bitCount_95d88_3 : decode cJ13_bitCount_95d88 3 = .ok (.lushr, 1) := by decide +kernel
theorem dJ13_bitCount_95d88_4 : decode cJ13_bitCount_95d88 4 = .ok (.ldc2_w 314, 3) := by decide +kernel
theorem dJ13_bitCount_95d88_7 : decode cJ13_bitCount_95d88 7 = .ok (.land, 1) := by decide +kernel
theorem dJ13_bitCount_95d88_8 : decode cJ13_bitCount_95d88 8 = .ok (.lsub, 1) := by decide +kernel
theorem dJ13_bitCount_95d88_9 : decode cJ13_bitCount_95d88 9 = .ok (.lstore_n 0, 1) := by decide +kernel
theorem dJ13_bitCount_95d88_10 : decode cJ13_bitCount_95d88 10 = .ok (.lload_n 0, 1) := by decide +kernel
theorem dJ13_bitCount_95d88_11 : decode cJ13_bitCount_95d88 11 = .ok (.ldc2_w 316, 3) := by decide +kernel
theorem dJ13_bitCount_95d88_14 : decode cJ13_bitCount_95d88 14 = .ok (.land, 1) := by decide +kernel
theorem dJ13_bitCount_95d88_15 : decode cJ13_bitCount_95d88 15 = .ok (.lload_n 0, 1) := by decide +kernel
theorem dJ13_bitCount_95d88_16 : decode cJ13_bitCount_95d88 16 = .ok (.iconst 2, 1) := by decide +kernel
theorem dJ13_bitCount_95d88_17 : decode cJ13_bitCount_95d88 17 = .ok (.lushr, 1) := by decide +kernel
theorem dJ13_bitCount_95d88_18 : decode cJ13_bitCount_95d88 18 = .ok (.ldc2_w 316, 3) := by decide +kernel
theorem dJ13_bitCount_95d88_21 : decode cJ13_bitCount_95d88 21 = .ok (.land, 1) := by decide +kernel
theorem dJ13_bitCount_95d88_22 : decode cJ13_bitCount_95d88 22 = .ok (.ladd, 1) := by decide +kernel
theorem dJ13_bitCount_95d88_23 : decode cJ13_bitCount_95d88 23 = .ok (.lstore_n 0, 1) := by decide +kernel
theorem dJ13_bitCount_95d88_24 : decode cJ13_bitCount_95d88 24 = .ok (.lload_n 0, 1) := by decide +kernel
theorem dJ13_bitCount_95d88_25 : decode cJ13_bitCount_95d88 25 = .ok (.lload_n 0, 1) := by decide +kernel
theorem dJ13_bitCount_95d88_26 : decode cJ13_bitCount_95d88 26 = .ok (.iconst 4, 1) := by decide +kernel
theorem dJ13_bitCount_95d88_27 : decode cJ13_bitCount_95d88 27 = .ok (.lushr, 1) := by decide +kernel
theorem dJ13_bitCount_95d88_28 : decode cJ13_bitCount_95d88 28 = .ok (.ladd, 1) := by decide +kernel
theorem dJ13_bitCount_95d88_29 : decode cJ13_bitCount_95d88 29 = .ok (.ldc2_w 318, 3) := by decide +kernel
theorem dJ13_bitCount_95d88_32 : decode cJ13_bitCount_95d88 32 = .ok (.land, 1) := by decide +kernel
theorem dJ13_bitCount_95d88_33 : decode cJ13_bitCount_95d88 33 = .ok (.lstore_n 0, 1) := by decide +kernel
theorem dJ13_bitCount_95d88_34 : decode cJ13_bitCount_95d88 34 = .ok (.lload_n 0, 1) := by decide +kernel
theorem dJ13_bitCount_95d88_35 : decode cJ13_bitCount_95d88 35 = .ok (.lload_n 0, 1) := by decide +kernel
theorem dJ13_bitCount_95d88_36 : decode cJ13_bitCount_95d88 36 = .ok (.bipush 8, 2) := by decide +kernel
theorem dJ13_bitCount_95d88_38 : decode cJ13_bitCount_95d88 38 = .ok (.lushr, 1) := by decide +kernel
theorem dJ13_bitCount_95d88_39 : decode cJ13_bitCount_95d88 39 = .ok (.ladd, 1) := by decide +kernel
theorem dJ13_bitCount_95d88_40 : decode cJ13_bitCount_95d88 40 = .ok (.lstore_n 0, 1) := by decide +kernel
theorem dJ13_bitCount_95d88_41 : decode cJ13_bitCount_95d88 41 = .ok (.lload_n 0, 1) := by decide +kernel
theorem dJ13_bitCount_95d88_42 : decode cJ13_bitCount_95d88 42 = .ok (.lload_n 0, 1) := by decide +kernel
theorem dJ13_bitCount_95d88_43 : decode cJ13_bitCount_95d88 43 = .ok (.bipush 16, 2) := by decide +kernel
theorem dJ13_bitCount_95d88_45 : decode cJ13_bitCount_95d88 45 = .ok (.lushr, 1) := by decide +kernel
theorem dJ13_bitCount_95d88_46 : decode cJ13_bitCount_95d88 46 = .ok (.ladd, 1) := by decide +kernel
theorem dJ13_bitCount_95d88_47 : decode cJ13_bitCount_95d88 47 = .ok (.lstore_n 0, 1) := by decide +kernel
theorem dJ13_bitCount_95d88_48 : decode cJ13_bitCount_95d88 48 = .ok (.lload_n 0, 1) := by decide +kernel
theorem dJ13_bitCount_95d88_49 : decode cJ13_bitCount_95d88 49 = .ok (.lload_n 0, 1) := by decide +kernel
theorem dJ13_bitCount_95d88_50 : decode cJ13_bitCount_95d88 50 = .ok (.bipush 32, 2) := by decide +kernel
theorem dJ13_bitCount_95d88_52 : decode cJ13_bitCount_95d88 52 = .ok (.lushr, 1) := by decide +kernel
theorem dJ13_bitCount_95d88_53 : decode cJ13_bitCount_95d88 53 = .ok (.ladd, 1) := by decide +kernel
theorem dJ13_bitCount_95d88_54 : decode cJ13_bitCount_95d88 54 = .ok (.lstore_n 0, 1) := by decide +kernel
theorem dJ13_bitCount_95d88_55 : decode cJ13_bitCount_95d88 55 = .ok (.lload_n 0, 1) := by decide +kernel
theorem dJ13_bitCount_95d88_56 : decode cJ13_bitCount_95d88 56 = .ok (.l2i, 1) := by decide +kernel
theorem dJ13_bitCount_95d88_57 : decode cJ13_bitCount_95d88 57 = .ok (.bipush 127, 2) := by decide +kernel
theorem dJ13_bitCount_95d88_59 : decode cJ13_bitCount_95d88 59 = .ok (.iand, 1) := by decide +kernel
theorem dJ13_bitCount_95d88_60 : decode cJ13_bitCount_95d88 60 = .ok (.ireturn, 1) := by decide +kernel
theorem dJ9_abs_0f7a4_0 : decode cJ9_abs_0f7a4 0 = .ok (.iload_n 0, 1) := by decide +kernel
theorem dJ9_abs_0f7a4_1 : decode cJ9_abs_0f7a4 1 = .ok (.ifCond .ge 8, 3) := by decide +kernel
theorem dJ9_abs_0f7a4_4 : decode cJ9_abs_0f7a4 4 = .ok (.iload_n 0, 1) := by decide +kernel
theorem dJ9_abs_0f7a4_5 : decode cJ9_abs_0f7a4 5 = .ok (.ineg, 1) := by decide +kernel
theorem dJ9_abs_0f7a4_6 : decode cJ9_abs_0f7a4 6 = .ok (.goto 4, 3) := by decide +kernel
theorem dJ9_abs_0f7a4_9 : decode cJ9_abs_0f7a4 9 = .ok (.iload_n 0, 1) := by decide +kernel
theorem dJ9_abs_0f7a4_10 : decode cJ9_abs_0f7a4 10 = .ok (.ireturn, 1) := by decide +kernel
theorem dJ9_max_7cf53_0 : decode cJ9_max_7cf53 0 = .ok (.iload_n 0, 1) := by decide +kernel
theorem dJ9_max_7cf53_1 : decode cJ9_max_7cf53 1 = .ok (.iload_n 1, 1) := by decide +kernel
theorem dJ9_max_7cf53_2 : decode cJ9_max_7cf53 2 = .ok (.if_icmp .lt 7, 3) := by decide +kernel
theorem dJ9_max_7cf53_5 : decode cJ9_max_7cf53 5 = .ok (.iload_n 0, 1) := by decide +kernel
theorem dJ9_max_7cf53_6 : decode cJ9_max_7cf53 6 = .ok (.goto 4, 3) := by decide +kernel
theorem dJ9_max_7cf53_9 : decode cJ9_max_7cf53 9 = .ok (.iload_n 1, 1) := by decide +kernel
theorem dJ9_max_7cf53_10 : decode cJ9_max_7cf53 10 = .ok (.ireturn, 1) := by decide +kernel
theorem dJ9_min_7cf53_0 : decode cJ9_min_7cf53 0 = .ok (.iload_n 0, 1) := by decide +kernel
theorem dJ9_min_7cf53_1 : decode cJ9_min_7cf53 1 = .ok (.iload_n 1, 1) := by decide +kernel
theorem dJ9_min_7cf53_2 : decode cJ9_min_7cf53 2 = .ok (.if_icmp .gt 7, 3) := by decide +kernel
theorem dJ9_min_7cf53_5 : decode cJ9_min_7cf53 5 = .ok (.iload_n 0, 1) := by decide +kernel
theorem dJ9_min_7cf53_6 : decode cJ9_min_7cf53 6 = .ok (.goto 4, 3) := by decide +kernel
theorem dJ9_min_7cf53_9 : decode cJ9_min_7cf53 9 = .ok (.iload_n 1, 1) := by decide +kernel
theorem dJ9_min_7cf53_10 : decode cJ9_min_7cf53 10 = .ok (.ireturn, 1) := by decide +kernel
theorem dJ0_length_8abf5_0 : decode cJ0_length_8abf5 0 = .ok (.aload_n 0, 1) := by decide +kernel
theorem dJ0_length_8abf5_1 : decode cJ0_length_8abf5 1 = .ok (.getfield 9, 3) := by decide +kernel
theorem dJ0_length_8abf5_4 : decode cJ0_length_8abf5 4 = .ok (.arraylength, 1) := by decide +kernel
theorem dJ0_length_8abf5_5 : decode cJ0_length_8abf5 5 = .ok (.aload_n 0, 1) := by decide +kernel
theorem dJ0_length_8abf5_6 : decode cJ0_length_8abf5 6 = .ok (.invokevirtual 335, 3) := by decide +kernel
theorem dJ0_length_8abf5_9 : decode cJ0_length_8abf5 9 = .ok (.ishr, 1) := by decide +kernel
theorem dJ0_length_8abf5_10 : decode cJ0_length_8abf5 10 = .ok (.ireturn, 1) := by decide +kernel
theorem dJ0_charAt_5068e_0 : decode cJ0_charAt_5068e 0 = .ok (.aload_n 0, 1) := by decide +kernel
theorem dJ0_charAt_5068e_1 : decode cJ0_charAt_5068e 1 = .ok (.invokevirtual 492, 3) := by decide +kernel
theorem dJ0_charAt_5068e_4 : decode cJ0_charAt_5068e 4 = .ok (.ifCond .eq 12, 3) := by decide +kernel
theorem dJ0_charAt_5068e_7 : decode cJ0_charAt_5068e 7 = .ok (.aload_n 0, 1) := by decide +kernel
theorem dJ0_charAt_5068e_8 : decode cJ0_charAt_5068e 8 = .ok (.getfield 9, 3) := by decide +kernel
theorem dJ0_charAt_5068e_11 : decode cJ0_charAt_5068e 11 = .ok (.iload_n 1, 1) := by decide +kernel
theorem dJ0_charAt_5068e_12 : decode cJ0_charAt_5068e 12 = .ok (.invokestatic 495, 3) := by decide +kernel
theorem dJ0_charAt_5068e_15 : decode cJ0_charAt_5068e 15 = .ok (.ireturn, 1) := by decide +kernel
theorem dJ0_charAt_5068e_16 : decode cJ0_charAt_5068e 16 = .ok (.aload_n 0, 1) := by decide +kernel
theorem dJ0_charAt_5068e_17 : decode cJ0_charAt_5068e 17 = .ok (.getfield 9, 3) := by decide +kernel
theorem dJ0_charAt_5068e_20 : decode cJ0_charAt_5068e 20 = .ok (.iload_n 1, 1) := by decide +kernel
theorem dJ0_charAt_5068e_21 : decode cJ0_charAt_5068e 21 = .ok (.invokestatic 498, 3) := by decide +kernel
theorem dJ0_charAt_5068e_24 : decode cJ0_charAt_5068e 24 = .ok (.ireturn, 1) := by decide +kernel
theorem dJ0_coder_7d493_0 : decode cJ0_coder_7d493 0 = .ok (.getstatic 38, 3) := by decide +kernel
theorem dJ0_coder_7d493_3 : decode cJ0_coder_7d493 3 = .ok (.ifCond .eq 10, 3) := by decide +kernel
theorem dJ0_coder_7d493_6 : decode cJ0_coder_7d493 6 = .ok (.aload_n 0, 1) := by decide +kernel
theorem dJ0_coder_7d493_7 : decode cJ0_coder_7d493 7 = .ok (.getfield 15, 3) := by decide +kernel
theorem dJ0_coder_7d493_10 : decode cJ0_coder_7d493 10 = .ok (.goto 4, 3) := by decide +kernel
theorem dJ0_coder_7d493_13 : decode cJ0_coder_7d493 13 = .ok (.iconst 1, 1) := by decide +kernel
theorem dJ0_coder_7d493_14 : decode cJ0_coder_7d493 14 = .ok (.ireturn, 1) := by decide +kernel
theorem dJ0_isLatin1_aae02_0 : decode cJ0_isLatin1_aae02 0 = .ok (.getstatic 38, 3) := by decide +kernel
theorem dJ0_isLatin1_aae02_3 : decode cJ0_isLatin1_aae02 3 = .ok (.ifCond .eq 14, 3) := by decide +kernel
theorem dJ0_isLatin1_aae02_6 : decode cJ0_isLatin1_aae02 6 = .ok (.aload_n 0, 1) := by decide +kernel
theorem dJ0_isLatin1_aae02_7 : decode cJ0_isLatin1_aae02 7 = .ok (.getfield 15, 3) := by decide +kernel
theorem dJ0_isLatin1_aae02_10 : decode cJ0_isLatin1_aae02 10 = .ok (.ifCond .ne 7, 3) := by decide +kernel
theorem dJ0_isLatin1_aae02_13 : decode cJ0_isLatin1_aae02 13 = .ok (.iconst 1, 1) := by decide +kernel
theorem dJ0_isLatin1_aae02_14 : decode cJ0_isLatin1_aae02 14 = .ok (.goto 4, 3) := by decide +kernel
theorem dJ0_isLatin1_aae02_17 : decode cJ0_isLatin1_aae02 17 = .ok (.iconst 0, 1) := by decide +kernel
theorem dJ0_isLatin1_aae02_18 : decode cJ0_isLatin1_aae02 18 = .ok (.ireturn, 1) := by decide +kernel
theorem dJ0_checkIndex_df160_0 : decode cJ0_checkIndex_df160 0 = .ok (.iload_n 0, 1) := by decide +kernel
theorem dJ0_checkIndex_df160_1 : decode cJ0_checkIndex_df160 1 = .ok (.iload_n 1, 1) := by decide +kernel
theorem dJ0_checkIndex_df160_2 : decode cJ0_checkIndex_df160 2 = .ok (.getstatic 1053, 3) := by decide +kernel
theorem dJ0_checkIndex_df160_5 : decode cJ0_checkIndex_df160 5 = .ok (.invokestatic 1059, 3) := by decide +kernel
theorem dJ0_checkIndex_df160_8 : decode cJ0_checkIndex_df160 8 = .ok (.pop, 1) := by decide +kernel
theorem dJ0_checkIndex_df160_9 : decode cJ0_checkIndex_df160 9 = .ok (.return_, 1) := by decide +kernel
theorem dJ1_charAt_3b067_0 : decode cJ1_charAt_3b067 0 = .ok (.iload_n 1, 1) := by decide +kernel
theorem dJ1_charAt_3b067_1 : decode cJ1_charAt_3b067 1 = .ok (.aload_n 0, 1) := by decide +kernel
theorem dJ1_charAt_3b067_2 : decode cJ1_charAt_3b067 2 = .ok (.arraylength, 1) := by decide +kernel
theorem dJ1_charAt_3b067_3 : decode cJ1_charAt_3b067 3 = .ok (.invokestatic 9, 3) := by decide +kernel
theorem dJ1_charAt_3b067_6 : decode cJ1_charAt_3b067 6 = .ok (.aload_n 0, 1) := by decide +kernel
theorem dJ1_charAt_3b067_7 : decode cJ1_charAt_3b067 7 = .ok (.iload_n 1, 1) := by decide +kernel
theorem dJ1_charAt_3b067_8 : decode cJ1_charAt_3b067 8 = .ok (.baload, 1) := by decide +kernel
theorem dJ1_charAt_3b067_9 : decode cJ1_charAt_3b067 9 = .ok (.sipush 255, 3) := by decide +kernel
theorem dJ1_charAt_3b067_12 : decode cJ1_charAt_3b067 12 = .ok (.iand, 1) := by decide +kernel
theorem dJ1_charAt_3b067_13 : decode cJ1_charAt_3b067 13 = .ok (.i2c, 1) := by decide +kernel
theorem dJ1_charAt_3b067_14 : decode cJ1_charAt_3b067 14 = .ok (.ireturn, 1) := by decide +kernel
theorem dJ2_getChar_3b067_0 : decode cJ2_getChar_3b067 0 = .ok (.getstatic 44, 3) := by decide +kernel
theorem dJ2_getChar_3b067_3 : decode cJ2_getChar_3b067 3 = .ok (.ifCond .ne 25, 3) := by decide +kernel
theorem dJ2_getChar_3b067_6 : decode cJ2_getChar_3b067 6 = .ok (.iload_n 1, 1) := by decide +kernel
theorem dJ2_getChar_3b067_7 : decode cJ2_getChar_3b067 7 = .ok (.ifCond .lt 11, 3) := by decide +kernel
theorem dJ2_getChar_3b067_10 : decode cJ2_getChar_3b067 10 = .ok (.iload_n 1, 1) := by decide +kernel
theorem dJ2_getChar_3b067_11 : decode cJ2_getChar_3b067 11 = .ok (.aload_n 0, 1) := by decide +kernel
theorem dJ2_getChar_3b067_12 : decode cJ2_getChar_3b067 12 = .ok (.invokestatic 48, 3) := by decide +kernel
theorem dJ2_getChar_3b067_15 : decode cJ2_getChar_3b067 15 = .ok (.if_icmp .lt 13, 3) := by decide +kernel
theorem dJ2_getChar_3b067_18 : decode cJ2_getChar_3b067 18 = .ok (.new 52, 3) := by decide +kernel
theorem dJ2_getChar_3b067_21 : decode cJ2_getChar_3b067 21 = .ok (.dup, 1) := by decide +kernel
theorem dJ2_getChar_3b067_22 : decode cJ2_getChar_3b067 22 = .ok (.ldc 54, 2) := by decide +kernel
theorem dJ2_getChar_3b067_24 : decode cJ2_getChar_3b067 24 = .ok (.invokespecial 56, 3) := by decide +kernel
theorem dJ2_getChar_3b067_27 : decode cJ2_getChar_3b067 27 = .ok (.athrow, 1) := by decide +kernel
theorem dJ2_getChar_3b067_28 : decode cJ2_getChar_3b067 28 = .ok (.iload_n 1, 1) := by decide +kernel
theorem dJ2_getChar_3b067_29 : decode cJ2_getChar_3b067 29 = .ok (.iconst 1, 1) := by decide +kernel
theorem dJ2_getChar_3b067_30 : decode cJ2_getChar_3b067 30 = .ok (.ishl, 1) := by decide +kernel
theorem dJ2_getChar_3b067_31 : decode cJ2_getChar_3b067 31 = .ok (.istore_n 1, 1) := by decide +kernel
theorem dJ2_getChar_3b067_32 : decode cJ2_getChar_3b067 32 = .ok (.aload_n 0, 1) := by decide +kernel
theorem dJ2_getChar_3b067_33 : decode cJ2_getChar_3b067 33 = .ok (.iload_n 1, 1) := by decide +kernel
theorem dJ2_getChar_3b067_34 : decode cJ2_getChar_3b067 34 = .ok (.iinc 1 1, 3) := by decide +kernel
theorem dJ2_getChar_3b067_37 : decode cJ2_getChar_3b067 37 = .ok (.baload, 1) := by decide +kernel
theorem dJ2_getChar_3b067_38 : decode cJ2_getChar_3b067 38 = .ok (.sipush 255, 3) := by decide +kernel
theorem dJ2_getChar_3b067_41 : decode cJ2_getChar_3b067 41 = .ok (.iand, 1) := by decide +kernel
theorem dJ2_getChar_3b067_42 : decode cJ2_getChar_3b067 42 = .ok (.getstatic 59, 3) := by decide +kernel
theorem dJ2_getChar_3b067_45 : decode cJ2_getChar_3b067 45 = .ok (.ishl, 1) := by decide +kernel
theorem dJ2_getChar_3b067_46 : decode cJ2_getChar_3b067 46 = .ok (.aload_n 0, 1) := by decide +kernel
theorem dJ2_getChar_3b067_47 : decode cJ2_getChar_3b067 47 = .ok (.iload_n 1, 1) := by decide +kernel
theorem dJ2_getChar_3b067_48 : decode cJ2_getChar_3b067 48 = .ok (.baload, 1) := by decide +kernel
theorem dJ2_getChar_3b067_49 : decode cJ2_getChar_3b067 49 = .ok (.sipush 255, 3) := by decide +kernel
theorem dJ2_getChar_3b067_52 : decode cJ2_getChar_3b067 52 = .ok (.iand, 1) := by decide +kernel
theorem dJ2_getChar_3b067_53 : decode cJ2_getChar_3b067 53 = .ok (.getstatic 63, 3) := by decide +kernel
theorem dJ2_getChar_3b067_56 : decode cJ2_getChar_3b067 56 = .ok (.ishl, 1) := by decide +kernel
theorem dJ2_getChar_3b067_57 : decode cJ2_getChar_3b067 57 = .ok (.ior, 1) := by decide +kernel
theorem dJ2_getChar_3b067_58 : decode cJ2_getChar_3b067 58 = .ok (.i2c, 1) := by decide +kernel
theorem dJ2_getChar_3b067_59 : decode cJ2_getChar_3b067 59 = .ok (.ireturn, 1) := by decide +kernel
theorem dJ2_length_9d52b_0 : decode cJ2_length_9d52b 0 = .ok (.aload_n 0, 1) := by decide +kernel
theorem dJ2_length_9d52b_1 : decode cJ2_length_9d52b 1 = .ok (.arraylength, 1) := by decide +kernel
theorem dJ2_length_9d52b_2 : decode cJ2_length_9d52b 2 = .ok (.iconst 1, 1) := by decide +kernel
theorem dJ2_length_9d52b_3 : decode cJ2_length_9d52b 3 = .ok (.ishr, 1) := by decide +kernel
theorem dJ2_length_9d52b_4 : decode cJ2_length_9d52b 4 = .ok (.ireturn, 1) := by decide +kernel
theorem dJ2_charAt_3b067_0 : decode cJ2_charAt_3b067 0 = .ok (.iload_n 1, 1) := by decide +kernel
theorem dJ2_charAt_3b067_1 : decode cJ2_charAt_3b067 1 = .ok (.aload_n 0, 1) := by decide +kernel
theorem dJ2_charAt_3b067_2 : decode cJ2_charAt_3b067 2 = .ok (.invokestatic 67, 3) := by decide +kernel
theorem dJ2_charAt_3b067_5 : decode cJ2_charAt_3b067 5 = .ok (.aload_n 0, 1) := by decide +kernel
theorem dJ2_charAt_3b067_6 : decode cJ2_charAt_3b067 6 = .ok (.iload_n 1, 1) := by decide +kernel
theorem dJ2_charAt_3b067_7 : decode cJ2_charAt_3b067 7 = .ok (.invokestatic 71, 3) := by decide +kernel
theorem dJ2_charAt_3b067_10 : decode cJ2_charAt_3b067 10 = .ok (.ireturn, 1) := by decide +kernel
theorem dJ2_checkIndex_2214a_0 : decode cJ2_checkIndex_2214a 0 = .ok (.iload_n 0, 1) := by decide +kernel
theorem dJ2_checkIndex_2214a_1 : decode cJ2_checkIndex_2214a 1 = .ok (.aload_n 1, 1) := by decide +kernel
theorem dJ2_checkIndex_2214a_2 : decode cJ2_checkIndex_2214a 2 = .ok (.invokestatic 48, 3) := by decide +kernel
theorem dJ2_checkIndex_2214a_5 : decode cJ2_checkIndex_2214a 5 = .ok (.invokestatic 414, 3) := by decide +kernel
theorem dJ2_checkIndex_2214a_8 : decode cJ2_checkIndex_2214a 8 = .ok (.return_, 1) := by decide +kernel
theorem dJ3_checkIndex_8e157_0 : decode cJ3_checkIndex_8e157 0 = .ok (.iload_n 0, 1) := by decide +kernel
theorem dJ3_checkIndex_8e157_1 : decode cJ3_checkIndex_8e157 1 = .ok (.ifCond .lt 8, 3) := by decide +kernel
theorem dJ3_checkIndex_8e157_4 : decode cJ3_checkIndex_8e157 4 = .ok (.iload_n 0, 1) := by decide +kernel
theorem dJ3_checkIndex_8e157_5 : decode cJ3_checkIndex_8e157 5 = .ok (.iload_n 1, 1) := by decide +kernel
theorem dJ3_checkIndex_8e157_6 : decode cJ3_checkIndex_8e157 6 = .ok (.if_icmp .lt 10, 3) := by decide +kernel
theorem dJ3_checkIndex_8e157_9 : decode cJ3_checkIndex_8e157 9 = .ok (.aload_n 2, 1) := by decide +kernel
theorem dJ3_checkIndex_8e157_10 : decode cJ3_checkIndex_8e157 10 = .ok (.iload_n 0, 1) := by decide +kernel
theorem dJ3_checkIndex_8e157_11 : decode cJ3_checkIndex_8e157 11 = .ok (.iload_n 1, 1) := by decide +kernel
theorem dJ3_checkIndex_8e157_12 : decode cJ3_checkIndex_8e157 12 = .ok (.invokestatic 95, 3) := by decide +kernel
theorem dJ3_checkIndex_8e157_15 : decode cJ3_checkIndex_8e157 15 = .ok (.athrow, 1) := by decide +kernel
theorem dJ3_checkIndex_8e157_16 : decode cJ3_checkIndex_8e157 16 = .ok (.iload_n 0, 1) := by decide +kernel
theorem dJ3_checkIndex_8e157_17 : decode cJ3_checkIndex_8e157 17 = .ok (.ireturn, 1) := by decide +kernel
theorem dL_law_0 : decode cL_law 0 = .ok (.new 7, 3) := by decide +kernel
theorem dL_law_3 : decode cL_law 3 = .ok (.dup, 1) := by decide +kernel
theorem dL_law_4 : decode cL_law 4 = .ok (.invokespecial 9, 3) := by decide +kernel
theorem dL_law_7 : decode cL_law 7 = .ok (.astore_n 1, 1) := by decide +kernel
theorem dL_law_8 : decode cL_law 8 = .ok (.new 10, 3) := by decide +kernel
theorem dL_law_11 : decode cL_law 11 = .ok (.dup, 1) := by decide +kernel
theorem dL_law_12 : decode cL_law 12 = .ok (.invokespecial 12, 3) := by decide +kernel
theorem dL_law_15 : decode cL_law 15 = .ok (.astore_n 2, 1) := by decide +kernel
theorem dL_law_16 : decode cL_law 16 = .ok (.iconst 0, 1) := by decide +kernel
theorem dL_law_17 : decode cL_law 17 = .ok (.istore_n 3, 1) := by decide +kernel
theorem dL_law_18 : decode cL_law 18 = .ok (.iload_n 3, 1) := by decide +kernel
theorem dL_law_19 : decode cL_law 19 = .ok (.aload_n 0, 1) := by decide +kernel
theorem dL_law_20 : decode cL_law 20 = .ok (.arraylength, 1) := by decide +kernel
theorem dL_law_21 : decode cL_law 21 = .ok (.bipush 7, 2) := by decide +kernel
theorem dL_law_23 : decode cL_law 23 = .ok (.isub, 1) := by decide +kernel
theorem dL_law_24 : decode cL_law 24 = .ok (.if_icmp .gt 822, 3) := by decide +kernel
theorem dL_law_27 : decode cL_law 27 = .ok (.aload_n 0, 1) := by decide +kernel
theorem dL_law_28 : decode cL_law 28 = .ok (.iload_n 3, 1) := by decide +kernel
theorem dL_law_29 : decode cL_law 29 = .ok (.iaload, 1) := by decide +kernel
theorem dL_law_30 : decode cL_law 30 = .ok (.bipush 31, 2) := by decide +kernel
theorem dL_law_32 : decode cL_law 32 = .ok (.iand, 1) := by decide +kernel
theorem dL_law_33 : decode cL_law 33 = .ok (.tableswitch 807 0 26 #[123, 198, 241, 274, 287, 320, 343, 366, 379, 392, 425, 448, 481, 514, 537, 560, 593, 626, 639, 662, 675, 688, 701, 724, 747, 770, 793], 123) := by decide +kernel
theorem dL_law_156 : decode cL_law 156 = .ok (.aload_n 1, 1) := by decide +kernel
theorem dL_law_157 : decode cL_law 157 = .ok (.aload_n 0, 1) := by decide +kernel
theorem dL_law_158 : decode cL_law 158 = .ok (.iload_n 3, 1) := by decide +kernel
theorem dL_law_159 : decode cL_law 159 = .ok (.iconst 1, 1) := by decide +kernel
theorem dL_law_160 : decode cL_law 160 = .ok (.iadd, 1) := by decide +kernel
theorem dL_law_161 : decode cL_law 161 = .ok (.iaload, 1) := by decide +kernel
theorem dL_law_162 : decode cL_law 162 = .ok (.aload_n 0, 1) := by decide +kernel
theorem dL_law_163 : decode cL_law 163 = .ok (.iload_n 3, 1) := by decide +kernel
theorem dL_law_164 : decode cL_law 164 = .ok (.iconst 2, 1) := by decide +kernel
theorem dL_law_165 : decode cL_law 165 = .ok (.iadd, 1) := by decide +kernel
theorem dL_law_166 : decode cL_law 166 = .ok (.iaload, 1) := by decide +kernel
theorem dL_law_167 : decode cL_law 167 = .ok (.aload_n 0, 1) := by decide +kernel
theorem dL_law_168 : decode cL_law 168 = .ok (.iload_n 3, 1) := by decide +kernel
theorem dL_law_169 : decode cL_law 169 = .ok (.iconst 3, 1) := by decide +kernel
theorem dL_law_170 : decode cL_law 170 = .ok (.iadd, 1) := by decide +kernel
theorem dL_law_171 : decode cL_law 171 = .ok (.iaload, 1) := by decide +kernel
theorem dL_law_172 : decode cL_law 172 = .ok (.aload_n 0, 1) := by decide +kernel
theorem dL_law_173 : decode cL_law 173 = .ok (.iload_n 3, 1) := by decide +kernel
theorem dL_law_174 : decode cL_law 174 = .ok (.iconst 4, 1) := by decide +kernel
theorem dL_law_175 : decode cL_law 175 = .ok (.iadd, 1) := by decide +kernel
theorem dL_law_176 : decode cL_law 176 = .ok (.iaload, 1) := by decide +kernel
theorem dL_law_177 : decode cL_law 177 = .ok (.aload_n 0, 1) := by decide +kernel
theorem dL_law_178 : decode cL_law 178 = .ok (.iload_n 3, 1) := by decide +kernel
theorem dL_law_179 : decode cL_law 179 = .ok (.iconst 5, 1) := by decide +kernel
theorem dL_law_180 : decode cL_law 180 = .ok (.iadd, 1) := by decide +kernel
theorem dL_law_181 : decode cL_law 181 = .ok (.iaload, 1) := by decide +kernel
theorem dL_law_182 : decode cL_law 182 = .ok (.aload_n 0, 1) := by decide +kernel
theorem dL_law_183 : decode cL_law 183 = .ok (.iload_n 3, 1) := by decide +kernel
theorem dL_law_184 : decode cL_law 184 = .ok (.bipush 6, 2) := by decide +kernel
theorem dL_law_186 : decode cL_law 186 = .ok (.iadd, 1) := by decide +kernel
theorem dL_law_187 : decode cL_law 187 = .ok (.iaload, 1) := by decide +kernel
theorem dL_law_188 : decode cL_law 188 = .ok (.invokevirtual 13, 3) := by decide +kernel
theorem dL_law_191 : decode cL_law 191 = .ok (.aload_n 2, 1) := by decide +kernel
theorem dL_law_192 : decode cL_law 192 = .ok (.aload_n 0, 1) := by decide +kernel
theorem dL_law_193 : decode cL_law 193 = .ok (.iload_n 3, 1) := by decide +kernel
theorem dL_law_194 : decode cL_law 194 = .ok (.iconst 1, 1) := by decide +kernel
theorem dL_law_195 : decode cL_law 195 = .ok (.iadd, 1) := by decide +kernel
theorem dL_law_196 : decode cL_law 196 = .ok (.iaload, 1) := by decide +kernel
theorem dL_law_197 : decode cL_law 197 = .ok (.aload_n 0, 1) := by decide +kernel
theorem dL_law_198 : decode cL_law 198 = .ok (.iload_n 3, 1) := by decide +kernel
theorem dL_law_199 : decode cL_law 199 = .ok (.iconst 2, 1) := by decide +kernel
theorem dL_law_200 : decode cL_law 200 = .ok (.iadd, 1) := by decide +kernel
theorem dL_law_201 : decode cL_law 201 = .ok (.iaload, 1) := by decide +kernel
theorem dL_law_202 : decode cL_law 202 = .ok (.aload_n 0, 1) := by decide +kernel
theorem dL_law_203 : decode cL_law 203 = .ok (.iload_n 3, 1) := by decide +kernel
theorem dL_law_204 : decode cL_law 204 = .ok (.iconst 3, 1) := by decide +kernel
theorem dL_law_205 : decode cL_law 205 = .ok (.iadd, 1) := by decide +kernel
theorem dL_law_206 : decode cL_law 206 = .ok (.iaload, 1) := by decide +kernel
theorem dL_law_207 : decode cL_law 207 = .ok (.aload_n 0, 1) := by decide +kernel
theorem dL_law_208 : decode cL_law 208 = .ok (.iload_n 3, 1) := by decide +kernel
theorem dL_law_209 : decode cL_law 209 = .ok (.iconst 4, 1) := by decide +kernel
theorem dL_law_210 : decode cL_law 210 = .ok (.iadd, 1) := by decide +kernel
theorem dL_law_211 : decode cL_law 211 = .ok (.iaload, 1) := by decide +kernel
theorem dL_law_212 : decode cL_law 212 = .ok (.aload_n 0, 1) := by decide +kernel
theorem dL_law_213 : decode cL_law 213 = .ok (.iload_n 3, 1) := by decide +kernel
theorem dL_law_214 : decode cL_law 214 = .ok (.iconst 5, 1) := by decide +kernel
theorem dL_law_215 : decode cL_law 215 = .ok (.iadd, 1) := by decide +kernel
theorem dL_law_216 : decode cL_law 216 = .ok (.iaload, 1) := by decide +kernel
theorem dL_law_217 : decode cL_law 217 = .ok (.aload_n 0, 1) := by decide +kernel
theorem dL_law_218 : decode cL_law 218 = .ok (.iload_n 3, 1) := by decide +kernel
theorem dL_law_219 : decode cL_law 219 = .ok (.bipush 6, 2) := by decide +kernel
theorem dL_law_221 : decode cL_law 221 = .ok (.iadd, 1) := by decide +kernel
theorem dL_law_222 : decode cL_law 222 = .ok (.iaload, 1) := by decide +kernel
theorem dL_law_223 : decode cL_law 223 = .ok (.invokevirtual 17, 3) := by decide +kernel
theorem dL_law_226 : decode cL_law 226 = .ok (.if_icmp .eq 614, 3) := by decide +kernel
theorem dL_law_229 : decode cL_law 229 = .ok (.iconst 0, 1) := by decide +kernel
theorem dL_law_230 : decode cL_law 230 = .ok (.ireturn, 1) := by decide +kernel
theorem dL_law_231 : decode cL_law 231 = .ok (.aload_n 1, 1) := by decide +kernel
theorem dL_law_232 : decode cL_law 232 = .ok (.aload_n 0, 1) := by decide +kernel
theorem dL_law_233 : decode cL_law 233 = .ok (.iload_n 3, 1) := by decide +kernel
theorem dL_law_234 : decode cL_law 234 = .ok (.iconst 1, 1) := by decide +kernel
theorem dL_law_235 : decode cL_law 235 = .ok (.iadd, 1) := by decide +kernel
theorem dL_law_236 : decode cL_law 236 = .ok (.iaload, 1) := by decide +kernel
theorem dL_law_237 : decode cL_law 237 = .ok (.aload_n 0, 1) := by decide +kernel
theorem dL_law_238 : decode cL_law 238 = .ok (.iload_n 3, 1) := by decide +kernel
theorem dL_law_239 : decode cL_law 239 = .ok (.iconst 2, 1) := by decide +kernel
theorem dL_law_240 : decode cL_law 240 = .ok (.iadd, 1) := by decide +kernel
theorem dL_law_241 : decode cL_law 241 = .ok (.iaload, 1) := by decide +kernel
theorem dL_law_242 : decode cL_law 242 = .ok (.aload_n 0, 1) := by decide +kernel
theorem dL_law_243 : decode cL_law 243 = .ok (.iload_n 3, 1) := by decide +kernel
theorem dL_law_244 : decode cL_law 244 = .ok (.iconst 3, 1) := by decide +kernel
theorem dL_law_245 : decode cL_law 245 = .ok (.iadd, 1) := by decide +kernel
theorem dL_law_246 : decode cL_law 246 = .ok (.iaload, 1) := by decide +kernel
theorem dL_law_247 : decode cL_law 247 = .ok (.invokevirtual 18, 3) := by decide +kernel
theorem dL_law_250 : decode cL_law 250 = .ok (.aload_n 2, 1) := by decide +kernel
theorem dL_law_251 : decode cL_law 251 = .ok (.aload_n 0, 1) := by decide +kernel
theorem dL_law_252 : decode cL_law 252 = .ok (.iload_n 3, 1) := by decide +kernel
theorem dL_law_253 : decode cL_law 253 = .ok (.iconst 1, 1) := by decide +kernel
theorem dL_law_254 : decode cL_law 254 = .ok (.iadd, 1) := by decide +kernel
theorem dL_law_255 : decode cL_law 255 = .ok (.iaload, 1) := by decide +kernel
theorem dL_law_256 : decode cL_law 256 = .ok (.aload_n 0, 1) := by decide +kernel
theorem dL_law_257 : decode cL_law 257 = .ok (.iload_n 3, 1) := by decide +kernel
theorem dL_law_258 : decode cL_law 258 = .ok (.iconst 2, 1) := by decide +kernel
theorem dL_law_259 : decode cL_law 259 = .ok (.iadd, 1) := by decide +kernel
theorem dL_law_260 : decode cL_law 260 = .ok (.iaload, 1) := by decide +kernel
theorem dL_law_261 : decode cL_law 261 = .ok (.aload_n 0, 1) := by decide +kernel
theorem dL_law_262 : decode cL_law 262 = .ok (.iload_n 3, 1) := by decide +kernel
theorem dL_law_263 : decode cL_law 263 = .ok (.iconst 3, 1) := by decide +kernel
theorem dL_law_264 : decode cL_law 264 = .ok (.iadd, 1) := by decide +kernel
theorem dL_law_265 : decode cL_law 265 = .ok (.iaload, 1) := by decide +kernel
theorem dL_law_266 : decode cL_law 266 = .ok (.invokevirtual 22, 3) := by decide +kernel
theorem dL_law_269 : decode cL_law 269 = .ok (.if_icmp .eq 571, 3) := by decide +kernel
theorem dL_law_272 : decode cL_law 272 = .ok (.iconst 0, 1) := by decide +kernel
theorem dL_law_273 : decode cL_law 273 = .ok (.ireturn, 1) := by decide +kernel
theorem dL_law_274 : decode cL_law 274 = .ok (.aload_n 1, 1) := by decide +kernel
theorem dL_law_275 : decode cL_law 275 = .ok (.aload_n 0, 1) := by decide +kernel
theorem dL_law_276 : decode cL_law 276 = .ok (.iload_n 3, 1) := by decide +kernel
theorem dL_law_277 : decode cL_law 277 = .ok (.iconst 1, 1) := by decide +kernel
theorem dL_law_278 : decode cL_law 278 = .ok (.iadd, 1) := by decide +kernel
theorem dL_law_279 : decode cL_law 279 = .ok (.iaload, 1) := by decide +kernel
theorem dL_law_280 : decode cL_law 280 = .ok (.aload_n 0, 1) := by decide +kernel
theorem dL_law_281 : decode cL_law 281 = .ok (.iload_n 3, 1) := by decide +kernel
theorem dL_law_282 : decode cL_law 282 = .ok (.iconst 2, 1) := by decide +kernel
theorem dL_law_283 : decode cL_law 283 = .ok (.iadd, 1) := by decide +kernel
theorem dL_law_284 : decode cL_law 284 = .ok (.iaload, 1) := by decide +kernel
theorem dL_law_285 : decode cL_law 285 = .ok (.invokevirtual 23, 3) := by decide +kernel
theorem dL_law_288 : decode cL_law 288 = .ok (.aload_n 2, 1) := by decide +kernel
theorem dL_law_289 : decode cL_law 289 = .ok (.aload_n 0, 1) := by decide +kernel
theorem dL_law_290 : decode cL_law 290 = .ok (.iload_n 3, 1) := by decide +kernel
theorem dL_law_291 : decode cL_law 291 = .ok (.iconst 1, 1) := by decide +kernel
theorem dL_law_292 : decode cL_law 292 = .ok (.iadd, 1) := by decide +kernel
theorem dL_law_293 : decode cL_law 293 = .ok (.iaload, 1) := by decide +kernel
theorem dL_law_294 : decode cL_law 294 = .ok (.aload_n 0, 1) := by decide +kernel
theorem dL_law_295 : decode cL_law 295 = .ok (.iload_n 3, 1) := by decide +kernel
theorem dL_law_296 : decode cL_law 296 = .ok (.iconst 2, 1) := by decide +kernel
theorem dL_law_297 : decode cL_law 297 = .ok (.iadd, 1) := by decide +kernel
theorem dL_law_298 : decode cL_law 298 = .ok (.iaload, 1) := by decide +kernel
theorem dL_law_299 : decode cL_law 299 = .ok (.invokevirtual 27, 3) := by decide +kernel
theorem dL_law_302 : decode cL_law 302 = .ok (.if_icmp .eq 538, 3) := by decide +kernel
theorem dL_law_305 : decode cL_law 305 = .ok (.iconst 0, 1) := by decide +kernel
theorem dL_law_306 : decode cL_law 306 = .ok (.ireturn, 1) := by decide +kernel
theorem dL_law_307 : decode cL_law 307 = .ok (.aload_n 1, 1) := by decide +kernel
theorem dL_law_308 : decode cL_law 308 = .ok (.invokevirtual 28, 3) := by decide +kernel
theorem dL_law_311 : decode cL_law 311 = .ok (.aload_n 2, 1) := by decide +kernel
theorem dL_law_312 : decode cL_law 312 = .ok (.invokevirtual 32, 3) := by decide +kernel
theorem dL_law_315 : decode cL_law 315 = .ok (.if_icmp .eq 525, 3) := by decide +kernel
theorem dL_law_318 : decode cL_law 318 = .ok (.iconst 0, 1) := by decide +kernel
theorem dL_law_319 : decode cL_law 319 = .ok (.ireturn, 1) := by decide +kernel
theorem dL_law_320 : decode cL_law 320 = .ok (.aload_n 1, 1) := by decide +kernel
theorem dL_law_321 : decode cL_law 321 = .ok (.aload_n 0, 1) := by decide +kernel
theorem dL_law_322 : decode cL_law 322 = .ok (.iload_n 3, 1) := by decide +kernel
theorem dL_law_323 : decode cL_law 323 = .ok (.iconst 1, 1) := by decide +kernel
theorem dL_law_324 : decode cL_law 324 = .ok (.iadd, 1) := by decide +kernel
theorem dL_law_325 : decode cL_law 325 = .ok (.iaload, 1) := by decide +kernel
theorem dL_law_326 : decode cL_law 326 = .ok (.aload_n 0, 1) := by decide +kernel
theorem dL_law_327 : decode cL_law 327 = .ok (.iload_n 3, 1) := by decide +kernel
theorem dL_law_328 : decode cL_law 328 = .ok (.iconst 2, 1) := by decide +kernel
theorem dL_law_329 : decode cL_law 329 = .ok (.iadd, 1) := by decide +kernel
theorem dL_law_330 : decode cL_law 330 = .ok (.iaload, 1) := by decide +kernel
theorem dL_law_331 : decode cL_law 331 = .ok (.invokevirtual 33, 3) := by decide +kernel
theorem dL_law_334 : decode cL_law 334 = .ok (.aload_n 2, 1) := by decide +kernel
theorem dL_law_335 : decode cL_law 335 = .ok (.aload_n 0, 1) := by decide +kernel
theorem dL_law_336 : decode cL_law 336 = .ok (.iload_n 3, 1) := by decide +kernel
theorem dL_law_337 : decode cL_law 337 = .ok (.iconst 1, 1) := by decide +kernel
theorem dL_law_338 : decode cL_law 338 = .ok (.iadd, 1) := by decide +kernel
theorem dL_law_339 : decode cL_law 339 = .ok (.iaload, 1) := by decide +kernel
theorem dL_law_340 : decode cL_law 340 = .ok (.aload_n 0, 1) := by decide +kernel
theorem dL_law_341 : decode cL_law 341 = .ok (.iload_n 3, 1) := by decide +kernel
theorem dL_law_342 : decode cL_law 342 = .ok (.iconst 2, 1) := by decide +kernel
theorem dL_law_343 : decode cL_law 343 = .ok (.iadd, 1) := by decide +kernel
theorem dL_law_344 : decode cL_law 344 = .ok (.iaload, 1) := by decide +kernel
theorem dL_law_345 : decode cL_law 345 = .ok (.invokevirtual 36, 3) := by decide +kernel
theorem dL_law_348 : decode cL_law 348 = .ok (.if_icmp .eq 492, 3) := by decide +kernel
theorem dL_law_351 : decode cL_law 351 = .ok (.iconst 0, 1) := by decide +kernel
theorem dL_law_352 : decode cL_law 352 = .ok (.ireturn, 1) := by decide +kernel
theorem dL_law_353 : decode cL_law 353 = .ok (.aload_n 1, 1) := by decide +kernel
theorem dL_law_354 : decode cL_law 354 = .ok (.aload_n 0, 1) := by decide +kernel
theorem dL_law_355 : decode cL_law 355 = .ok (.iload_n 3, 1) := by decide +kernel
theorem dL_law_356 : decode cL_law 356 = .ok (.iconst 1, 1) := by decide +kernel
theorem dL_law_357 : decode cL_law 357 = .ok (.iadd, 1) := by decide +kernel
theorem dL_law_358 : decode cL_law 358 = .ok (.iaload, 1) := by decide +kernel
theorem dL_law_359 : decode cL_law 359 = .ok (.invokevirtual 37, 3) := by decide +kernel
theorem dL_law_362 : decode cL_law 362 = .ok (.aload_n 2, 1) := by decide +kernel
theorem dL_law_363 : decode cL_law 363 = .ok (.aload_n 0, 1) := by decide +kernel
theorem dL_law_364 : decode cL_law 364 = .ok (.iload_n 3, 1) := by decide +kernel
theorem dL_law_365 : decode cL_law 365 = .ok (.iconst 1, 1) := by decide +kernel
theorem dL_law_366 : decode cL_law 366 = .ok (.iadd, 1) := by decide +kernel
theorem dL_law_367 : decode cL_law 367 = .ok (.iaload, 1) := by decide +kernel
theorem dL_law_368 : decode cL_law 368 = .ok (.invokevirtual 41, 3) := by decide +kernel
theorem dL_law_371 : decode cL_law 371 = .ok (.if_icmp .eq 469, 3) := by decide +kernel
theorem dL_law_374 : decode cL_law 374 = .ok (.iconst 0, 1) := by decide +kernel
theorem dL_law_375 : decode cL_law 375 = .ok (.ireturn, 1) := by decide +kernel
theorem dL_law_376 : decode cL_law 376 = .ok (.aload_n 1, 1) := by decide +kernel
theorem dL_law_377 : decode cL_law 377 = .ok (.aload_n 0, 1) := by decide +kernel
theorem dL_law_378 : decode cL_law 378 = .ok (.iload_n 3, 1) := by decide +kernel
theorem dL_law_379 : decode cL_law 379 = .ok (.iconst 1, 1) := by decide +kernel
theorem dL_law_380 : decode cL_law 380 = .ok (.iadd, 1) := by decide +kernel
theorem dL_law_381 : decode cL_law 381 = .ok (.iaload, 1) := by decide +kernel
theorem dL_law_382 : decode cL_law 382 = .ok (.invokevirtual 42, 3) := by decide +kernel
theorem dL_law_385 : decode cL_law 385 = .ok (.aload_n 2, 1) := by decide +kernel
theorem dL_law_386 : decode cL_law 386 = .ok (.aload_n 0, 1) := by decide +kernel
theorem dL_law_387 : decode cL_law 387 = .ok (.iload_n 3, 1) := by decide +kernel
theorem dL_law_388 : decode cL_law 388 = .ok (.iconst 1, 1) := by decide +kernel
theorem dL_law_389 : decode cL_law 389 = .ok (.iadd, 1) := by decide +kernel
theorem dL_law_390 : decode cL_law 390 = .ok (.iaload, 1) := by decide +kernel
theorem dL_law_391 : decode cL_law 391 = .ok (.invokevirtual 45, 3) := by decide +kernel
theorem dL_law_394 : decode cL_law 394 = .ok (.if_icmp .eq 446, 3) := by decide +kernel
theorem dL_law_397 : decode cL_law 397 = .ok (.iconst 0, 1) := by decide +kernel
theorem dL_law_398 : decode cL_law 398 = .ok (.ireturn, 1) := by decide +kernel
theorem dL_law_399 : decode cL_law 399 = .ok (.aload_n 1, 1) := by decide +kernel
theorem dL_law_400 : decode cL_law 400 = .ok (.invokevirtual 46, 3) := by decide +kernel
theorem dL_law_403 : decode cL_law 403 = .ok (.aload_n 2, 1) := by decide +kernel
theorem dL_law_404 : decode cL_law 404 = .ok (.invokevirtual 49, 3) := by decide +kernel
theorem dL_law_407 : decode cL_law 407 = .ok (.if_icmp .eq 433, 3) := by decide +kernel
theorem dL_law_410 : decode cL_law 410 = .ok (.iconst 0, 1) := by decide +kernel
theorem dL_law_411 : decode cL_law 411 = .ok (.ireturn, 1) := by decide +kernel
theorem dL_law_412 : decode cL_law 412 = .ok (.aload_n 1, 1) := by decide +kernel
theorem dL_law_413 : decode cL_law 413 = .ok (.invokevirtual 50, 3) := by decide +kernel
theorem dL_law_416 : decode cL_law 416 = .ok (.aload_n 2, 1) := by decide +kernel
theorem dL_law_417 : decode cL_law 417 = .ok (.invokevirtual 53, 3) := by decide +kernel
theorem dL_law_420 : decode cL_law 420 = .ok (.if_icmp .eq 420, 3) := by decide +kernel
theorem dL_law_423 : decode cL_law 423 = .ok (.iconst 0, 1) := by decide +kernel
theorem dL_law_424 : decode cL_law 424 = .ok (.ireturn, 1) := by decide +kernel
theorem dL_law_425 : decode cL_law 425 = .ok (.aload_n 1, 1) := by decide +kernel
theorem dL_law_426 : decode cL_law 426 = .ok (.aload_n 0, 1) := by decide +kernel
theorem dL_law_427 : decode cL_law 427 = .ok (.iload_n 3, 1) := by decide +kernel
theorem dL_law_428 : decode cL_law 428 = .ok (.iconst 1, 1) := by decide +kernel
theorem dL_law_429 : decode cL_law 429 = .ok (.iadd, 1) := by decide +kernel
theorem dL_law_430 : decode cL_law 430 = .ok (.iaload, 1) := by decide +kernel
theorem dL_law_431 : decode cL_law 431 = .ok (.aload_n 0, 1) := by decide +kernel
theorem dL_law_432 : decode cL_law 432 = .ok (.iload_n 3, 1) := by decide +kernel
theorem dL_law_433 : decode cL_law 433 = .ok (.iconst 2, 1) := by decide +kernel
theorem dL_law_434 : decode cL_law 434 = .ok (.iadd, 1) := by decide +kernel
theorem dL_law_435 : decode cL_law 435 = .ok (.iaload, 1) := by decide +kernel
theorem dL_law_436 : decode cL_law 436 = .ok (.invokevirtual 54, 3) := by decide +kernel
theorem dL_law_439 : decode cL_law 439 = .ok (.aload_n 2, 1) := by decide +kernel
theorem dL_law_440 : decode cL_law 440 = .ok (.aload_n 0, 1) := by decide +kernel
theorem dL_law_441 : decode cL_law 441 = .ok (.iload_n 3, 1) := by decide +kernel
theorem dL_law_442 : decode cL_law 442 = .ok (.iconst 1, 1) := by decide +kernel
theorem dL_law_443 : decode cL_law 443 = .ok (.iadd, 1) := by decide +kernel
theorem dL_law_444 : decode cL_law 444 = .ok (.iaload, 1) := by decide +kernel
theorem dL_law_445 : decode cL_law 445 = .ok (.aload_n 0, 1) := by decide +kernel
theorem dL_law_446 : decode cL_law 446 = .ok (.iload_n 3, 1) := by decide +kernel
theorem dL_law_447 : decode cL_law 447 = .ok (.iconst 2, 1) := by decide +kernel
theorem dL_law_448 : decode cL_law 448 = .ok (.iadd, 1) := by decide +kernel
theorem dL_law_449 : decode cL_law 449 = .ok (.iaload, 1) := by decide +kernel
theorem dL_law_450 : decode cL_law 450 = .ok (.invokevirtual 57, 3) := by decide +kernel
theorem dL_law_453 : decode cL_law 453 = .ok (.if_icmp .eq 387, 3) := by decide +kernel
theorem dL_law_456 : decode cL_law 456 = .ok (.iconst 0, 1) := by decide +kernel
theorem dL_law_457 : decode cL_law 457 = .ok (.ireturn, 1) := by decide +kernel
theorem dL_law_458 : decode cL_law 458 = .ok (.aload_n 1, 1) := by decide +kernel
theorem dL_law_459 : decode cL_law 459 = .ok (.aload_n 0, 1) := by decide +kernel
theorem dL_law_460 : decode cL_law 460 = .ok (.iload_n 3, 1) := by decide +kernel
theorem dL_law_461 : decode cL_law 461 = .ok (.iconst 1, 1) := by decide +kernel
theorem dL_law_462 : decode cL_law 462 = .ok (.iadd, 1) := by decide +kernel
theorem dL_law_463 : decode cL_law 463 = .ok (.iaload, 1) := by decide +kernel
theorem dL_law_464 : decode cL_law 464 = .ok (.invokevirtual 58, 3) := by decide +kernel
theorem dL_law_467 : decode cL_law 467 = .ok (.aload_n 2, 1) := by decide +kernel
theorem dL_law_468 : decode cL_law 468 = .ok (.aload_n 0, 1) := by decide +kernel
theorem dL_law_469 : decode cL_law 469 = .ok (.iload_n 3, 1) := by decide +kernel
theorem dL_law_470 : decode cL_law 470 = .ok (.iconst 1, 1) := by decide +kernel
theorem dL_law_471 : decode cL_law 471 = .ok (.iadd, 1) := by decide +kernel
theorem dL_law_472 : decode cL_law 472 = .ok (.iaload, 1) := by decide +kernel
theorem dL_law_473 : decode cL_law 473 = .ok (.invokevirtual 61, 3) := by decide +kernel
theorem dL_law_476 : decode cL_law 476 = .ok (.if_icmp .eq 364, 3) := by decide +kernel
theorem dL_law_479 : decode cL_law 479 = .ok (.iconst 0, 1) := by decide +kernel
theorem dL_law_480 : decode cL_law 480 = .ok (.ireturn, 1) := by decide +kernel
theorem dL_law_481 : decode cL_law 481 = .ok (.aload_n 1, 1) := by decide +kernel
theorem dL_law_482 : decode cL_law 482 = .ok (.aload_n 0, 1) := by decide +kernel
theorem dL_law_483 : decode cL_law 483 = .ok (.iload_n 3, 1) := by decide +kernel
theorem dL_law_484 : decode cL_law 484 = .ok (.iconst 1, 1) := by decide +kernel
theorem dL_law_485 : decode cL_law 485 = .ok (.iadd, 1) := by decide +kernel
theorem dL_law_486 : decode cL_law 486 = .ok (.iaload, 1) := by decide +kernel
theorem dL_law_487 : decode cL_law 487 = .ok (.aload_n 0, 1) := by decide +kernel
theorem dL_law_488 : decode cL_law 488 = .ok (.iload_n 3, 1) := by decide +kernel
theorem dL_law_489 : decode cL_law 489 = .ok (.iconst 2, 1) := by decide +kernel
theorem dL_law_490 : decode cL_law 490 = .ok (.iadd, 1) := by decide +kernel
theorem dL_law_491 : decode cL_law 491 = .ok (.iaload, 1) := by decide +kernel
theorem dL_law_492 : decode cL_law 492 = .ok (.invokevirtual 62, 3) := by decide +kernel
theorem dL_law_495 : decode cL_law 495 = .ok (.aload_n 2, 1) := by decide +kernel
theorem dL_law_496 : decode cL_law 496 = .ok (.aload_n 0, 1) := by decide +kernel
theorem dL_law_497 : decode cL_law 497 = .ok (.iload_n 3, 1) := by decide +kernel
theorem dL_law_498 : decode cL_law 498 = .ok (.iconst 1, 1) := by decide +kernel
theorem dL_law_499 : decode cL_law 499 = .ok (.iadd, 1) := by decide +kernel
theorem dL_law_500 : decode cL_law 500 = .ok (.iaload, 1) := by decide +kernel
theorem dL_law_501 : decode cL_law 501 = .ok (.aload_n 0, 1) := by decide +kernel
theorem dL_law_502 : decode cL_law 502 = .ok (.iload_n 3, 1) := by decide +kernel
theorem dL_law_503 : decode cL_law 503 = .ok (.iconst 2, 1) := by decide +kernel
theorem dL_law_504 : decode cL_law 504 = .ok (.iadd, 1) := by decide +kernel
theorem dL_law_505 : decode cL_law 505 = .ok (.iaload, 1) := by decide +kernel
theorem dL_law_506 : decode cL_law 506 = .ok (.invokevirtual 65, 3) := by decide +kernel
theorem dL_law_509 : decode cL_law 509 = .ok (.if_icmp .eq 331, 3) := by decide +kernel
theorem dL_law_512 : decode cL_law 512 = .ok (.iconst 0, 1) := by decide +kernel
theorem dL_law_513 : decode cL_law 513 = .ok (.ireturn, 1) := by decide +kernel
theorem dL_law_514 : decode cL_law 514 = .ok (.aload_n 1, 1) := by decide +kernel
theorem dL_law_515 : decode cL_law 515 = .ok (.aload_n 0, 1) := by decide +kernel
theorem dL_law_516 : decode cL_law 516 = .ok (.iload_n 3, 1) := by decide +kernel
theorem dL_law_517 : decode cL_law 517 = .ok (.iconst 1, 1) := by decide +kernel
theorem dL_law_518 : decode cL_law 518 = .ok (.iadd, 1) := by decide +kernel
theorem dL_law_519 : decode cL_law 519 = .ok (.iaload, 1) := by decide +kernel
theorem dL_law_520 : decode cL_law 520 = .ok (.aload_n 0, 1) := by decide +kernel
theorem dL_law_521 : decode cL_law 521 = .ok (.iload_n 3, 1) := by decide +kernel
theorem dL_law_522 : decode cL_law 522 = .ok (.iconst 2, 1) := by decide +kernel
theorem dL_law_523 : decode cL_law 523 = .ok (.iadd, 1) := by decide +kernel
theorem dL_law_524 : decode cL_law 524 = .ok (.iaload, 1) := by decide +kernel
theorem dL_law_525 : decode cL_law 525 = .ok (.invokevirtual 66, 3) := by decide +kernel
theorem dL_law_528 : decode cL_law 528 = .ok (.aload_n 2, 1) := by decide +kernel
theorem dL_law_529 : decode cL_law 529 = .ok (.aload_n 0, 1) := by decide +kernel
theorem dL_law_530 : decode cL_law 530 = .ok (.iload_n 3, 1) := by decide +kernel
theorem dL_law_531 : decode cL_law 531 = .ok (.iconst 1, 1) := by decide +kernel
theorem dL_law_532 : decode cL_law 532 = .ok (.iadd, 1) := by decide +kernel
theorem dL_law_533 : decode cL_law 533 = .ok (.iaload, 1) := by decide +kernel
theorem dL_law_534 : decode cL_law 534 = .ok (.aload_n 0, 1) := by decide +kernel
theorem dL_law_535 : decode cL_law 535 = .ok (.iload_n 3, 1) := by decide +kernel
theorem dL_law_536 : decode cL_law 536 = .ok (.iconst 2, 1) := by decide +kernel
theorem dL_law_537 : decode cL_law 537 = .ok (.iadd, 1) := by decide +kernel
theorem dL_law_538 : decode cL_law 538 = .ok (.iaload, 1) := by decide +kernel
theorem dL_law_539 : decode cL_law 539 = .ok (.invokevirtual 69, 3) := by decide +kernel
theorem dL_law_542 : decode cL_law 542 = .ok (.if_icmp .eq 298, 3) := by decide +kernel
theorem dL_law_545 : decode cL_law 545 = .ok (.iconst 0, 1) := by decide +kernel
theorem dL_law_546 : decode cL_law 546 = .ok (.ireturn, 1) := by decide +kernel
theorem dL_law_547 : decode cL_law 547 = .ok (.aload_n 1, 1) := by decide +kernel
theorem dL_law_548 : decode cL_law 548 = .ok (.aload_n 0, 1) := by decide +kernel
theorem dL_law_549 : decode cL_law 549 = .ok (.iload_n 3, 1) := by decide +kernel
theorem dL_law_550 : decode cL_law 550 = .ok (.iconst 1, 1) := by decide +kernel
theorem dL_law_551 : decode cL_law 551 = .ok (.iadd, 1) := by decide +kernel
theorem dL_law_552 : decode cL_law 552 = .ok (.iaload, 1) := by decide +kernel
theorem dL_law_553 : decode cL_law 553 = .ok (.invokevirtual 70, 3) := by decide +kernel
theorem dL_law_556 : decode cL_law 556 = .ok (.aload_n 2, 1) := by decide +kernel
theorem dL_law_557 : decode cL_law 557 = .ok (.aload_n 0, 1) := by decide +kernel
theorem dL_law_558 : decode cL_law 558 = .ok (.iload_n 3, 1) := by decide +kernel
theorem dL_law_559 : decode cL_law 559 = .ok (.iconst 1, 1) := by decide +kernel
theorem dL_law_560 : decode cL_law 560 = .ok (.iadd, 1) := by decide +kernel
theorem dL_law_561 : decode cL_law 561 = .ok (.iaload, 1) := by decide +kernel
theorem dL_law_562 : decode cL_law 562 = .ok (.invokevirtual 73, 3) := by decide +kernel
theorem dL_law_565 : decode cL_law 565 = .ok (.if_icmp .eq 275, 3) := by decide +kernel
theorem dL_law_568 : decode cL_law 568 = .ok (.iconst 0, 1) := by decide +kernel
theorem dL_law_569 : decode cL_law 569 = .ok (.ireturn, 1) := by decide +kernel
theorem dL_law_570 : decode cL_law 570 = .ok (.aload_n 1, 1) := by decide +kernel
theorem dL_law_571 : decode cL_law 571 = .ok (.aload_n 0, 1) := by decide +kernel
theorem dL_law_572 : decode cL_law 572 = .ok (.iload_n 3, 1) := by decide +kernel
theorem dL_law_573 : decode cL_law 573 = .ok (.iconst 1, 1) := by decide +kernel
theorem dL_law_574 : decode cL_law 574 = .ok (.iadd, 1) := by decide +kernel
theorem dL_law_575 : decode cL_law 575 = .ok (.iaload, 1) := by decide +kernel
theorem dL_law_576 : decode cL_law 576 = .ok (.invokevirtual 74, 3) := by decide +kernel
theorem dL_law_579 : decode cL_law 579 = .ok (.aload_n 2, 1) := by decide +kernel
theorem dL_law_580 : decode cL_law 580 = .ok (.aload_n 0, 1) := by decide +kernel
theorem dL_law_581 : decode cL_law 581 = .ok (.iload_n 3, 1) := by decide +kernel
theorem dL_law_582 : decode cL_law 582 = .ok (.iconst 1, 1) := by decide +kernel
theorem dL_law_583 : decode cL_law 583 = .ok (.iadd, 1) := by decide +kernel
theorem dL_law_584 : decode cL_law 584 = .ok (.iaload, 1) := by decide +kernel
theorem dL_law_585 : decode cL_law 585 = .ok (.invokevirtual 77, 3) := by decide +kernel
theorem dL_law_588 : decode cL_law 588 = .ok (.if_icmp .eq 252, 3) := by decide +kernel
theorem dL_law_591 : decode cL_law 591 = .ok (.iconst 0, 1) := by decide +kernel
theorem dL_law_592 : decode cL_law 592 = .ok (.ireturn, 1) := by decide +kernel
theorem dL_law_593 : decode cL_law 593 = .ok (.aload_n 1, 1) := by decide +kernel
theorem dL_law_594 : decode cL_law 594 = .ok (.aload_n 0, 1) := by decide +kernel
theorem dL_law_595 : decode cL_law 595 = .ok (.iload_n 3, 1) := by decide +kernel
theorem dL_law_596 : decode cL_law 596 = .ok (.iconst 1, 1) := by decide +kernel
theorem dL_law_597 : decode cL_law 597 = .ok (.iadd, 1) := by decide +kernel
theorem dL_law_598 : decode cL_law 598 = .ok (.iaload, 1) := by decide +kernel
theorem dL_law_599 : decode cL_law 599 = .ok (.aload_n 0, 1) := by decide +kernel
theorem dL_law_600 : decode cL_law 600 = .ok (.iload_n 3, 1) := by decide +kernel
theorem dL_law_601 : decode cL_law 601 = .ok (.iconst 2, 1) := by decide +kernel
theorem dL_law_602 : decode cL_law 602 = .ok (.iadd, 1) := by decide +kernel
theorem dL_law_603 : decode cL_law 603 = .ok (.iaload, 1) := by decide +kernel
theorem dL_law_604 : decode cL_law 604 = .ok (.invokevirtual 78, 3) := by decide +kernel
theorem dL_law_607 : decode cL_law 607 = .ok (.aload_n 2, 1) := by decide +kernel
theorem dL_law_608 : decode cL_law 608 = .ok (.aload_n 0, 1) := by decide +kernel
theorem dL_law_609 : decode cL_law 609 = .ok (.iload_n 3, 1) := by decide +kernel
theorem dL_law_610 : decode cL_law 610 = .ok (.iconst 1, 1) := by decide +kernel
theorem dL_law_611 : decode cL_law 611 = .ok (.iadd, 1) := by decide +kernel
theorem dL_law_612 : decode cL_law 612 = .ok (.iaload, 1) := by decide +kernel
theorem dL_law_613 : decode cL_law 613 = .ok (.aload_n 0, 1) := by decide +kernel
theorem dL_law_614 : decode cL_law 614 = .ok (.iload_n 3, 1) := by decide +kernel
theorem dL_law_615 : decode cL_law 615 = .ok (.iconst 2, 1) := by decide +kernel
theorem dL_law_616 : decode cL_law 616 = .ok (.iadd, 1) := by decide +kernel
theorem dL_law_617 : decode cL_law 617 = .ok (.iaload, 1) := by decide +kernel
theorem dL_law_618 : decode cL_law 618 = .ok (.invokevirtual 81, 3) := by decide +kernel
theorem dL_law_621 : decode cL_law 621 = .ok (.if_icmp .eq 219, 3) := by decide +kernel
theorem dL_law_624 : decode cL_law 624 = .ok (.iconst 0, 1) := by decide +kernel
theorem dL_law_625 : decode cL_law 625 = .ok (.ireturn, 1) := by decide +kernel
theorem dL_law_626 : decode cL_law 626 = .ok (.aload_n 1, 1) := by decide +kernel
theorem dL_law_627 : decode cL_law 627 = .ok (.aload_n 0, 1) := by decide +kernel
theorem dL_law_628 : decode cL_law 628 = .ok (.iload_n 3, 1) := by decide +kernel
theorem dL_law_629 : decode cL_law 629 = .ok (.iconst 1, 1) := by decide +kernel
theorem dL_law_630 : decode cL_law 630 = .ok (.iadd, 1) := by decide +kernel
theorem dL_law_631 : decode cL_law 631 = .ok (.iaload, 1) := by decide +kernel
theorem dL_law_632 : decode cL_law 632 = .ok (.aload_n 0, 1) := by decide +kernel
theorem dL_law_633 : decode cL_law 633 = .ok (.iload_n 3, 1) := by decide +kernel
theorem dL_law_634 : decode cL_law 634 = .ok (.iconst 2, 1) := by decide +kernel
theorem dL_law_635 : decode cL_law 635 = .ok (.iadd, 1) := by decide +kernel
theorem dL_law_636 : decode cL_law 636 = .ok (.iaload, 1) := by decide +kernel
theorem dL_law_637 : decode cL_law 637 = .ok (.invokevirtual 82, 3) := by decide +kernel
theorem dL_law_640 : decode cL_law 640 = .ok (.aload_n 2, 1) := by decide +kernel
theorem dL_law_641 : decode cL_law 641 = .ok (.aload_n 0, 1) := by decide +kernel
theorem dL_law_642 : decode cL_law 642 = .ok (.iload_n 3, 1) := by decide +kernel
theorem dL_law_643 : decode cL_law 643 = .ok (.iconst 1, 1) := by decide +kernel
theorem dL_law_644 : decode cL_law 644 = .ok (.iadd, 1) := by decide +kernel
theorem dL_law_645 : decode cL_law 645 = .ok (.iaload, 1) := by decide +kernel
theorem dL_law_646 : decode cL_law 646 = .ok (.aload_n 0, 1) := by decide +kernel
theorem dL_law_647 : decode cL_law 647 = .ok (.iload_n 3, 1) := by decide +kernel
theorem dL_law_648 : decode cL_law 648 = .ok (.iconst 2, 1) := by decide +kernel
theorem dL_law_649 : decode cL_law 649 = .ok (.iadd, 1) := by decide +kernel
theorem dL_law_650 : decode cL_law 650 = .ok (.iaload, 1) := by decide +kernel
theorem dL_law_651 : decode cL_law 651 = .ok (.invokevirtual 85, 3) := by decide +kernel
theorem dL_law_654 : decode cL_law 654 = .ok (.if_icmp .eq 186, 3) := by decide +kernel
theorem dL_law_657 : decode cL_law 657 = .ok (.iconst 0, 1) := by decide +kernel
theorem dL_law_658 : decode cL_law 658 = .ok (.ireturn, 1) := by decide +kernel
theorem dL_law_659 : decode cL_law 659 = .ok (.aload_n 1, 1) := by decide +kernel
theorem dL_law_660 : decode cL_law 660 = .ok (.invokevirtual 86, 3) := by decide +kernel
theorem dL_law_663 : decode cL_law 663 = .ok (.aload_n 2, 1) := by decide +kernel
theorem dL_law_664 : decode cL_law 664 = .ok (.invokevirtual 89, 3) := by decide +kernel
theorem dL_law_667 : decode cL_law 667 = .ok (.if_icmp .eq 173, 3) := by decide +kernel
theorem dL_law_670 : decode cL_law 670 = .ok (.iconst 0, 1) := by decide +kernel
theorem dL_law_671 : decode cL_law 671 = .ok (.ireturn, 1) := by decide +kernel
theorem dL_law_672 : decode cL_law 672 = .ok (.aload_n 1, 1) := by decide +kernel
theorem dL_law_673 : decode cL_law 673 = .ok (.aload_n 0, 1) := by decide +kernel
theorem dL_law_674 : decode cL_law 674 = .ok (.iload_n 3, 1) := by decide +kernel
theorem dL_law_675 : decode cL_law 675 = .ok (.iconst 1, 1) := by decide +kernel
theorem dL_law_676 : decode cL_law 676 = .ok (.iadd, 1) := by decide +kernel
theorem dL_law_677 : decode cL_law 677 = .ok (.iaload, 1) := by decide +kernel
theorem dL_law_678 : decode cL_law 678 = .ok (.invokevirtual 90, 3) := by decide +kernel
theorem dL_law_681 : decode cL_law 681 = .ok (.aload_n 2, 1) := by decide +kernel
theorem dL_law_682 : decode cL_law 682 = .ok (.aload_n 0, 1) := by decide +kernel
theorem dL_law_683 : decode cL_law 683 = .ok (.iload_n 3, 1) := by decide +kernel
theorem dL_law_684 : decode cL_law 684 = .ok (.iconst 1, 1) := by decide +kernel
theorem dL_law_685 : decode cL_law 685 = .ok (.iadd, 1) := by decide +kernel
theorem dL_law_686 : decode cL_law 686 = .ok (.iaload, 1) := by decide +kernel
theorem dL_law_687 : decode cL_law 687 = .ok (.invokevirtual 93, 3) := by decide +kernel
theorem dL_law_690 : decode cL_law 690 = .ok (.if_icmp .eq 150, 3) := by decide +kernel
theorem dL_law_693 : decode cL_law 693 = .ok (.iconst 0, 1) := by decide +kernel
theorem dL_law_694 : decode cL_law 694 = .ok (.ireturn, 1) := by decide +kernel
theorem dL_law_695 : decode cL_law 695 = .ok (.aload_n 1, 1) := by decide +kernel
theorem dL_law_696 : decode cL_law 696 = .ok (.invokevirtual 94, 3) := by decide +kernel
theorem dL_law_699 : decode cL_law 699 = .ok (.aload_n 2, 1) := by decide +kernel
theorem dL_law_700 : decode cL_law 700 = .ok (.invokevirtual 97, 3) := by decide +kernel
theorem dL_law_703 : decode cL_law 703 = .ok (.if_icmp .eq 137, 3) := by decide +kernel
theorem dL_law_706 : decode cL_law 706 = .ok (.iconst 0, 1) := by decide +kernel
theorem dL_law_707 : decode cL_law 707 = .ok (.ireturn, 1) := by decide +kernel
theorem dL_law_708 : decode cL_law 708 = .ok (.aload_n 1, 1) := by decide +kernel
theorem dL_law_709 : decode cL_law 709 = .ok (.invokevirtual 98, 3) := by decide +kernel
theorem dL_law_712 : decode cL_law 712 = .ok (.aload_n 2, 1) := by decide +kernel
theorem dL_law_713 : decode cL_law 713 = .ok (.invokevirtual 101, 3) := by decide +kernel
theorem dL_law_716 : decode cL_law 716 = .ok (.if_icmp .eq 124, 3) := by decide +kernel
theorem dL_law_719 : decode cL_law 719 = .ok (.iconst 0, 1) := by decide +kernel
theorem dL_law_720 : decode cL_law 720 = .ok (.ireturn, 1) := by decide +kernel
theorem dL_law_721 : decode cL_law 721 = .ok (.aload_n 1, 1) := by decide +kernel
theorem dL_law_722 : decode cL_law 722 = .ok (.invokevirtual 102, 3) := by decide +kernel
theorem dL_law_725 : decode cL_law 725 = .ok (.aload_n 2, 1) := by decide +kernel
theorem dL_law_726 : decode cL_law 726 = .ok (.invokevirtual 105, 3) := by decide +kernel
theorem dL_law_729 : decode cL_law 729 = .ok (.if_icmp .eq 111, 3) := by decide +kernel
theorem dL_law_732 : decode cL_law 732 = .ok (.iconst 0, 1) := by decide +kernel
theorem dL_law_733 : decode cL_law 733 = .ok (.ireturn, 1) := by decide +kernel
theorem dL_law_734 : decode cL_law 734 = .ok (.aload_n 1, 1) := by decide +kernel
theorem dL_law_735 : decode cL_law 735 = .ok (.aload_n 0, 1) := by decide +kernel
theorem dL_law_736 : decode cL_law 736 = .ok (.iload_n 3, 1) := by decide +kernel
theorem dL_law_737 : decode cL_law 737 = .ok (.iconst 1, 1) := by decide +kernel
theorem dL_law_738 : decode cL_law 738 = .ok (.iadd, 1) := by decide +kernel
theorem dL_law_739 : decode cL_law 739 = .ok (.iaload, 1) := by decide +kernel
theorem dL_law_740 : decode cL_law 740 = .ok (.invokevirtual 106, 3) := by decide +kernel
theorem dL_law_743 : decode cL_law 743 = .ok (.aload_n 2, 1) := by decide +kernel
theorem dL_law_744 : decode cL_law 744 = .ok (.aload_n 0, 1) := by decide +kernel
theorem dL_law_745 : decode cL_law 745 = .ok (.iload_n 3, 1) := by decide +kernel
theorem dL_law_746 : decode cL_law 746 = .ok (.iconst 1, 1) := by decide +kernel
theorem dL_law_747 : decode cL_law 747 = .ok (.iadd, 1) := by decide +kernel
theorem dL_law_748 : decode cL_law 748 = .ok (.iaload, 1) := by decide +kernel
theorem dL_law_749 : decode cL_law 749 = .ok (.invokevirtual 109, 3) := by decide +kernel
theorem dL_law_752 : decode cL_law 752 = .ok (.if_icmp .eq 88, 3) := by decide +kernel
theorem dL_law_755 : decode cL_law 755 = .ok (.iconst 0, 1) := by decide +kernel
theorem dL_law_756 : decode cL_law 756 = .ok (.ireturn, 1) := by decide +kernel
theorem dL_law_757 : decode cL_law 757 = .ok (.aload_n 1, 1) := by decide +kernel
theorem dL_law_758 : decode cL_law 758 = .ok (.aload_n 0, 1) := by decide +kernel
theorem dL_law_759 : decode cL_law 759 = .ok (.iload_n 3, 1) := by decide +kernel
theorem dL_law_760 : decode cL_law 760 = .ok (.iconst 1, 1) := by decide +kernel
theorem dL_law_761 : decode cL_law 761 = .ok (.iadd, 1) := by decide +kernel
theorem dL_law_762 : decode cL_law 762 = .ok (.iaload, 1) := by decide +kernel
theorem dL_law_763 : decode cL_law 763 = .ok (.invokevirtual 110, 3) := by decide +kernel
theorem dL_law_766 : decode cL_law 766 = .ok (.aload_n 2, 1) := by decide +kernel
theorem dL_law_767 : decode cL_law 767 = .ok (.aload_n 0, 1) := by decide +kernel
theorem dL_law_768 : decode cL_law 768 = .ok (.iload_n 3, 1) := by decide +kernel
theorem dL_law_769 : decode cL_law 769 = .ok (.iconst 1, 1) := by decide +kernel
theorem dL_law_770 : decode cL_law 770 = .ok (.iadd, 1) := by decide +kernel
theorem dL_law_771 : decode cL_law 771 = .ok (.iaload, 1) := by decide +kernel
theorem dL_law_772 : decode cL_law 772 = .ok (.invokevirtual 113, 3) := by decide +kernel
theorem dL_law_775 : decode cL_law 775 = .ok (.if_icmp .eq 65, 3) := by decide +kernel
theorem dL_law_778 : decode cL_law 778 = .ok (.iconst 0, 1) := by decide +kernel
theorem dL_law_779 : decode cL_law 779 = .ok (.ireturn, 1) := by decide +kernel
theorem dL_law_780 : decode cL_law 780 = .ok (.aload_n 1, 1) := by decide +kernel
theorem dL_law_781 : decode cL_law 781 = .ok (.aload_n 0, 1) := by decide +kernel
theorem dL_law_782 : decode cL_law 782 = .ok (.iload_n 3, 1) := by decide +kernel
theorem dL_law_783 : decode cL_law 783 = .ok (.iconst 1, 1) := by decide +kernel
theorem dL_law_784 : decode cL_law 784 = .ok (.iadd, 1) := by decide +kernel
theorem dL_law_785 : decode cL_law 785 = .ok (.iaload, 1) := by decide +kernel
theorem dL_law_786 : decode cL_law 786 = .ok (.invokevirtual 114, 3) := by decide +kernel
theorem dL_law_789 : decode cL_law 789 = .ok (.aload_n 2, 1) := by decide +kernel
theorem dL_law_790 : decode cL_law 790 = .ok (.aload_n 0, 1) := by decide +kernel
theorem dL_law_791 : decode cL_law 791 = .ok (.iload_n 3, 1) := by decide +kernel
theorem dL_law_792 : decode cL_law 792 = .ok (.iconst 1, 1) := by decide +kernel
theorem dL_law_793 : decode cL_law 793 = .ok (.iadd, 1) := by decide +kernel
theorem dL_law_794 : decode cL_law 794 = .ok (.iaload, 1) := by decide +kernel
theorem dL_law_795 : decode cL_law 795 = .ok (.invokevirtual 117, 3) := by decide +kernel
theorem dL_law_798 : decode cL_law 798 = .ok (.if_icmp .eq 42, 3) := by decide +kernel
theorem dL_law_801 : decode cL_law 801 = .ok (.iconst 0, 1) := by decide +kernel
theorem dL_law_802 : decode cL_law 802 = .ok (.ireturn, 1) := by decide +kernel
theorem dL_law_803 : decode cL_law 803 = .ok (.aload_n 1, 1) := by decide +kernel
theorem dL_law_804 : decode cL_law 804 = .ok (.aload_n 0, 1) := by decide +kernel
theorem dL_law_805 : decode cL_law 805 = .ok (.iload_n 3, 1) := by decide +kernel
theorem dL_law_806 : decode cL_law 806 = .ok (.iconst 1, 1) := by decide +kernel
theorem dL_law_807 : decode cL_law 807 = .ok (.iadd, 1) := by decide +kernel
theorem dL_law_808 : decode cL_law 808 = .ok (.iaload, 1) := by decide +kernel
theorem dL_law_809 : decode cL_law 809 = .ok (.invokevirtual 118, 3) := by decide +kernel
theorem dL_law_812 : decode cL_law 812 = .ok (.aload_n 2, 1) := by decide +kernel
theorem dL_law_813 : decode cL_law 813 = .ok (.aload_n 0, 1) := by decide +kernel
theorem dL_law_814 : decode cL_law 814 = .ok (.iload_n 3, 1) := by decide +kernel
theorem dL_law_815 : decode cL_law 815 = .ok (.iconst 1, 1) := by decide +kernel
theorem dL_law_816 : decode cL_law 816 = .ok (.iadd, 1) := by decide +kernel
theorem dL_law_817 : decode cL_law 817 = .ok (.iaload, 1) := by decide +kernel
theorem dL_law_818 : decode cL_law 818 = .ok (.invokevirtual 121, 3) := by decide +kernel
theorem dL_law_821 : decode cL_law 821 = .ok (.if_icmp .eq 19, 3) := by decide +kernel
theorem dL_law_824 : decode cL_law 824 = .ok (.iconst 0, 1) := by decide +kernel
theorem dL_law_825 : decode cL_law 825 = .ok (.ireturn, 1) := by decide +kernel
theorem dL_law_826 : decode cL_law 826 = .ok (.aload_n 1, 1) := by decide +kernel
theorem dL_law_827 : decode cL_law 827 = .ok (.invokevirtual 122, 3) := by decide +kernel
theorem dL_law_830 : decode cL_law 830 = .ok (.aload_n 2, 1) := by decide +kernel
theorem dL_law_831 : decode cL_law 831 = .ok (.invokevirtual 126, 3) := by decide +kernel
theorem dL_law_834 : decode cL_law 834 = .ok (.lcmp, 1) := by decide +kernel
theorem dL_law_835 : decode cL_law 835 = .ok (.ifCond .eq 5, 3) := by decide +kernel
theorem dL_law_838 : decode cL_law 838 = .ok (.iconst 0, 1) := by decide +kernel
theorem dL_law_839 : decode cL_law 839 = .ok (.ireturn, 1) := by decide +kernel
theorem dL_law_840 : decode cL_law 840 = .ok (.iinc 3 7, 3) := by decide +kernel
theorem dL_law_843 : decode cL_law 843 = .ok (.goto (-825), 3) := by decide +kernel
theorem dL_law_846 : decode cL_law 846 = .ok (.iconst 1, 1) := by decide +kernel
theorem dL_law_847 : decode cL_law 847 = .ok (.ireturn, 1) := by decide +kernel
end
section
/-! ===== the tables' words that stay, values, the store ===== -/
def TB : List Cond := lw_tbl.filter goodWord
theorem tb_in {i : Nat} {w : Cond} (h : lw_tbl[i]? = some w) (g : goodWord w = true) : w ∈ TB := List.mem_filter.mpr ⟨List.mem_of_getElem? h, g⟩
theorem tb_good {w : Cond} (h : w ∈ TB) : (w.onTables && w.keeps) = true ∨ ∃ ty, w = .arrayClass ty := good_of_word (List.mem_filter.mp h).2
theorem tb_gi {ws : List Cond} (h : ∀ w ∈ ws, w ∈ TB) : GoodIn TB ws := fun w hw => ⟨h w hw, tb_good (h w hw)⟩
def iV (x : Int) : Int32 := Int32.ofInt x
def lV (x : Int) : Int64 := Int64.ofInt x
def wI (x : Int) : Int := (iV x).toInt
def wL (x : Int) : Int := (lV x).toInt
abbrev St : Type := Int → Int → Int
def upS (σ : St) (o i x : Int) : St := fun o' i' => if o' = o ∧ i' = i then x else σ o' i'
theorem iV_wI (x : Int) : iV (wI x) = iV x := Int32.ofInt_toInt _
theorem iV_add (x y : Int) : iV x + iV y = iV (x + y) := (Int32.ofInt_add x y).symm
theorem iV_sub (x y : Int) : iV x - iV y = iV (x - y) := (Int32.ofInt_sub x y).symm
theorem iV_mul (x y : Int) : iV x * iV y = iV (x * y) := (Int32.ofInt_mul x y).symm
theorem lV_add (x y : Int) : lV x + lV y = lV (x + y) := (Int64.ofInt_add x y).symm
theorem lV_sub (x y : Int) : lV x - lV y = lV (x - y) := (Int64.ofInt_sub x y).symm
theorem lV_mul (x y : Int) : lV x * lV y = lV (x * y) := (Int64.ofInt_mul x y).symm
theorem iV_lt (x y : Int) : iV x < iV y ↔ wI x < wI y := Int32.lt_iff_toInt_lt
theorem iV_le (x y : Int) : iV x ≤ iV y ↔ wI x ≤ wI y := Int32.le_iff_toInt_le
theorem iV_eq (x y : Int) : iV x = iV y ↔ wI x = wI y := Int32.toInt_inj.symm
theorem lV_lt (x y : Int) : lV x < lV y ↔ wL x < wL y := Int64.lt_iff_toInt_lt
theorem lV_eq (x y : Int) : lV x = lV y ↔ wL x = wL y := Int64.toInt_inj.symm
theorem wI_id {x : Int} (h1 : -2147483648 ≤ x) (h2 : x ≤ 2147483647) : wI x = x := Int32.toInt_ofInt_of_le h1 (by omega)
theorem wL_id {x : Int} (h1 : -9223372036854775808 ≤ x) (h2 : x ≤ 9223372036854775807) : wL x = x := Int64.toInt_ofInt_of_le h1 (by omega)
theorem wI_rng (x : Int) : -2147483648 ≤ wI x ∧ wI x ≤ 2147483647 := by
  have h1 := Int32.le_toInt (iV x)
  have h2 := Int32.toInt_lt (iV x)
  unfold wI
  omega
theorem iV_clamp {i : Int} {n : Nat} (h : 0 ≤ i ∧ i < n) (hn : n < 2147483648) : (iV i).toNatClampNeg = i.toNat := by
  have := wI_id (x := i) (by omega) (by omega)
  show (iV i).toInt.toNat = i.toNat
  show (wI i).toNat = i.toNat
  rw [this]
theorem iV_in {i : Int} {n : Nat} (h : 0 ≤ i ∧ i < n) (hn : n < 2147483648) : vp_in (iV i) n := by
  rw [vp_in_iff]
  have := wI_id (x := i) (by omega) (by omega)
  show 0 ≤ wI i ∧ wI i < n
  rw [this]
  exact h
/-! other operations, by the machine's own -/
def shlI (x y : Int) : Int := (iV x <<< (iV y &&& 31)).toInt
def shrI (x y : Int) : Int := (iV x >>> (iV y &&& 31)).toInt
def andI (x y : Int) : Int := (iV x &&& iV y).toInt
def orI (x y : Int) : Int := (iV x ||| iV y).toInt
def divI (x y : Int) : Int := (iV x / iV y).toInt
def negI (x : Int) : Int := (-(iV x)).toInt
def divL (x y : Int) : Int := (lV x / lV y).toInt
def remL (x y : Int) : Int := (lV x - lV x / lV y * lV y).toInt
def andL (x y : Int) : Int := (lV x &&& lV y).toInt
def orL (x y : Int) : Int := (lV x ||| lV y).toInt
def shlL (x y : Int) : Int := (lV x <<< ((iV y).toInt64 &&& 63)).toInt
def ushrL (x y : Int) : Int := ((lV x).toUInt64 >>> ((iV y).toInt64.toUInt64 &&& Int64.toUInt64 63)).toInt64.toInt
def i2lI (x : Int) : Int := wI x
def cmpL (x y : Int) : Int := if wL y < wL x then 1 else if wL x = wL y then 0 else -1
def i2cI (x : Int) : Int := ((iV x).toUInt32 % 65536).toInt32.toInt
/-! the mirror's own words -/
def rdA {α : Type} (n : Nat) (σ : St) (o i : Int) (k : Int → Option α) : Option α := if 0 ≤ i ∧ i < n then k (σ o i) else none
def wrA {α : Type} (n : Nat) (σ : St) (o i x : Int) (k : St → Option α) : Option α := if 0 ≤ i ∧ i < n then k (upS σ o i x) else none
def wrF {α : Type} (σ : St) (o i x : Int) (k : St → α) : α := k (upS σ o i x)
def ixA {α : Type} (n : Nat) (i : Int) (k : Option α) : Option α := if 0 ≤ i ∧ i < n then k else none
def bd2 {α : Type} (a : Option (Int × St)) (k : Int → St → Option α) : Option α := match a with
  | some r => k r.1 r.2
  | none => none
def bd1 {α : Type} (a : Option Int) (k : Int → Option α) : Option α := match a with
  | some r => k r
  | none => none
def bnd {α : Type} (a : Int) (k : Int → α) : α := k a
theorem rdA_ex {α : Type} {n : Nat} {σ : St} {o i : Int} {k : Int → Option α} {r : α} (h : rdA n σ o i k = some r) : ∃ v, v = σ o i ∧ (0 ≤ i ∧ i < n) ∧ k v = some r := by
  unfold rdA at h
  by_cases c : 0 ≤ i ∧ i < n
  · rw [if_pos c] at h; exact ⟨_, rfl, c, h⟩
  · rw [if_neg c] at h; cases h
theorem wrA_ex {α : Type} {n : Nat} {σ : St} {o i x : Int} {k : St → Option α} {r : α} (h : wrA n σ o i x k = some r) : ∃ σ', σ' = upS σ o i x ∧ (0 ≤ i ∧ i < n) ∧ k σ' = some r := by
  unfold wrA at h
  by_cases c : 0 ≤ i ∧ i < n
  · rw [if_pos c] at h; exact ⟨_, rfl, c, h⟩
  · rw [if_neg c] at h; cases h
theorem ixA_ex {α : Type} {n : Nat} {i : Int} {k : Option α} {r : α} (h : ixA n i k = some r) : (0 ≤ i ∧ i < n) ∧ k = some r := by
  unfold ixA at h
  by_cases c : 0 ≤ i ∧ i < n
  · rw [if_pos c] at h; exact ⟨c, h⟩
  · rw [if_neg c] at h; cases h
theorem wrF_ex {α : Type} {σ : St} {o i x : Int} {k : St → α} {r : α} (h : wrF σ o i x k = r) : ∃ σ', σ' = upS σ o i x ∧ k σ' = r := ⟨_, rfl, h⟩
theorem bd2_ex {α : Type} {a : Option (Int × St)} {k : Int → St → Option α} {r : α} (h : bd2 a k = some r) : ∃ v σ', a = some (v, σ') ∧ k v σ' = some r := by
  cases a with
  | none => cases h
  | some q => exact ⟨q.1, q.2, rfl, h⟩
theorem bd1_ex {α : Type} {a : Option Int} {k : Int → Option α} {r : α} (h : bd1 a k = some r) : ∃ v, a = some v ∧ k v = some r := by
  cases a with
  | none => cases h
  | some q => exact ⟨q, rfl, h⟩
theorem bnd_ex {α : Type} {a : Int} {k : Int → α} {r : α} (h : bnd a k = r) : ∃ v, v = a ∧ k v = r := ⟨_, rfl, h⟩
theorem ite_t {α : Type} {c : Prop} {_ : Decidable c} {a b r : α} (hc : c) (h : (if c then a else b) = r) : a = r := by rw [if_pos hc] at h; exact h
theorem ite_f {α : Type} {c : Prop} {_ : Decidable c} {a b r : α} (hc : ¬ c) (h : (if c then a else b) = r) : b = r := by rw [if_neg hc] at h; exact h
theorem ite_some {α : Type} {c : Prop} {_ : Decidable c} {a : Option α} {r : α} (h : (if c then a else none) = some r) : c ∧ a = some r := by
  by_cases hc : c
  · rw [if_pos hc] at h; exact ⟨hc, h⟩
  · rw [if_neg hc] at h; cases h
theorem ite_10 {c : Prop} {_ : Decidable c} : (if c then (1 : Int) else 0) = 0 ∨ (if c then (1 : Int) else 0) = 1 := by
  by_cases h : c
  · right; rw [if_pos h]
  · left; rw [if_neg h]
theorem ite_01 {c : Prop} {_ : Decidable c} : (if c then (0 : Int) else 1) = 0 ∨ (if c then (0 : Int) else 1) = 1 := by
  by_cases h : c
  · left; rw [if_pos h]
  · right; rw [if_neg h]
/-! ===== the cells: ids in the order in which they are made; their kinds, lengths, links ===== -/
def uvKd (o : Int) : Nat :=
  if o = 0 then 9 else if o = 1 then 8 else if o = 10 ∨ o = 23 then 4 else if o = 14 ∨ o = 27 then 7 else if o = 21 then 6 else if o = 35 then 2
  else if o = 54 then 3 else if o = 55 then 0 else if o = 118 then 10 else if o = 37 then 12 else if o = 56 then 13
  else if 38 ≤ o ∧ o < 54 ∧ o % 2 = 0 then 1 else if o = 57 ∨ o = 63 ∨ (70 ≤ o ∧ o < 118 ∧ (o - 70) % 6 = 0) then 5
  else if 0 ≤ o ∧ o < 142 then 11 else 99
def uvLn (o : Int) : Nat :=
  if o < 9 then 40 else if o = 9 then 4 else if o < 14 then 8 else if o < 23 then 120 else if o < 27 then 8 else if o < 34 then 120
  else if o = 34 then 6 else if o = 36 then 40 else if o = 37 then 8 else if o < 54 then 40 else if o = 56 then 8 else if o < 69 then 1
  else if o = 69 then 8 else if o < 118 then 40 else if o = 119 then 240 else if o = 120 then 24 else if o = 121 then 6 else if o < 126 then 128
  else if o = 126 then 3 else if o = 127 then 120 else if o = 128 then 24 else if o < 133 then 128 else if o < 135 then 8 else if o = 135 then 320
  else if o = 136 then 8 else if o < 141 then 320 else 8
def uvRf (o i : Int) : Int :=
  if o = 0 then (if i = 0 then 1 else if i = 1 then 10 else if i = 2 then 14 else if i = 3 then 21 else if i = 4 then 34 else if i = 5 then 35 else if i = 6 then 54 else 55)
  else if o = 21 then (if i = 0 then 22 else if i = 1 then 23 else 27)
  else if o = 35 then (if i = 0 then 1 else if i = 1 then 10 else if i = 2 then 14 else if i = 3 then 34 else if i = 4 then 36 else 37)
  else if o = 37 then 38 + 2 * i
  else if o = 54 then (if i = 0 then 1 else 10)
  else if o = 55 then (if i = 0 then 10 else if i = 1 then 37 else if i = 2 then 54 else if i = 3 then 56 else if i = 4 then 57 else if i = 5 then 63 else 69)
  else if o = 56 then 70 + 6 * i
  else if o = 118 then (if i = 0 then 119 else if i = 2 then 120 else if i = 4 then 121 else if i < 10 then 116 + i else if i < 14 then 114 + i else if i < 21 then 112 + i
    else if i < 27 then 110 + i else if i < 34 then 107 + i else 141)
  else o + 1 + i
def uvNf (ci : Nat) : Nat := match ci with
  | 0 => 7 | 1 => 4 | 2 => 6 | 3 => 2 | 4 => 4 | 5 => 5 | 6 => 7 | 7 => 9 | 8 => 9 | 9 => 12 | _ => 40
def uvIr (ci j : Nat) : Bool := match ci with
  | 0 => true | 1 => j == 0 | 2 => true | 3 => true | 4 => Nat.blt j 3 | 5 => true | 6 => Nat.blt j 3 | 7 => Nat.blt j 6 | 8 => Nat.blt j 8 | 9 => Nat.blt j 8
  | _ => [0, 2, 4, 6, 7, 8, 9, 12, 13, 16, 17, 18, 19, 20, 23, 24, 25, 26, 30, 31, 32, 33, 38].contains j
def uvNN : Nat := 142
abbrev UG : Type := va_G × (Nat → ClassId) × (Int → Nat) × (Nat → Nat) × (Nat → Nat)
def uvFs (ad : Int → Nat) (σ : St) (ρ : Int → Int → Option Int) (o : Int) (ci : Nat) : List Value := (List.range (uvNf ci)).map (fun (j : Nat) => if uvIr ci j = true then va_rf ((ρ o j).map ad) else .int (iV (σ o j)))
def uvCe (G : UG) (σ : St) (ρ : Int → Int → Option Int) (o : Int) : va_E :=
  if uvKd o < 11 then .inr (uvKd o, uvFs G.2.2.1 σ ρ o (uvKd o)) else if uvKd o = 11 then .inl (G.2.1 0, uvLn o, .inl (fun i => iV (σ o i)))
  else .inl (G.2.1 (uvKd o - 11), uvLn o, .inr (.inr (.inr (.inr (fun i => (ρ o i).map G.2.2.1)))))
def uvWs (G : UG) (n : Nat) (σ : St) (ρ : Int → Int → Option Int) : va_W := (List.range n).map (fun (k : Nat) => (G.2.2.1 k, uvCe G σ ρ k))
def uvR0 (o i : Int) : Option Int := some (uvRf o i)
def uvTy (G : UG) : List (ClassId × FieldType) := [(G.2.1 0, .int), (G.2.1 1, .object "UnitVoices$Choice"), (G.2.1 2, .object "UnitVoices$Tally")]
def uvA (G : UG) : Nat → Prop := fun q => ∃ k : Nat, k < uvNN ∧ G.2.2.1 k = q
theorem uvWs_at {G : UG} {n : Nat} {σ : St} {ρ : Int → Int → Option Int} {o : Int} (h : 0 ≤ o ∧ o < n) : (uvWs G n σ ρ)[o.toNat]? = some (G.2.2.1 o, uvCe G σ ρ o) := by
  obtain ⟨k, rfl⟩ := Int.eq_ofNat_of_zero_le h.1
  have hk : k < n := by omega
  simp [uvWs, hk]
theorem ite_ltN {c : Prop} {_ : Decidable c} {a b N : Nat} (ha : a < N) (hb : b < N) : (if c then a else b) < N := by
  by_cases h : c
  · rw [if_pos h]; exact ha
  · rw [if_neg h]; exact hb
theorem uvLn_lt (o : Int) : uvLn o < 2147483648 := by
  unfold uvLn
  repeat (refine ite_ltN (by decide) ?_)
  decide
theorem uvKd_in {o : Int} {k : Nat} (h : uvKd o = k) (hk : k < 99) : 0 ≤ o ∧ o < (uvNN : Int) := by
  have h0 : uvKd o ≠ 99 := by omega
  clear h hk
  unfold uvKd at h0
  unfold uvNN
  by_cases hb : 0 ≤ o ∧ o < 142
  · exact hb
  · exfalso
    apply h0
    repeat rw [if_neg (by omega)]
/-! ===== the fixed parts of a walk ===== -/
def uvSs (G : UG) (U : State) (H : Heap) : Prop :=
  vk_S 2 [3, 4] [[114, 111, 119], [116, 114, 101, 101]] G.2.2.2.1 G.2.2.2.2 (uvA G) U H ∧ va_Z "java/lang/String" "COMPACT_STRINGS" "Z" (.int 1) (uvA G) U H ∧ (∃ v : Value, (v = .null ∨ ∃ a, v = .ref a) ∧ va_Z "jdk/internal/util/Preconditions" "SIOOBE_FORMATTER" "Ljava/util/function/BiFunction;" v (uvA G) U H)
def uvNs (G : UG) (U : State) : Prop := vk_R "UnitVoices$Text" 63 "row" (G.2.2.2.1 0) U ∧ vk_R "UnitVoices$Text" 84 "tree" (G.2.2.2.1 1) U ∧ va_Nw (.methodLinkNest "UnitVoices$Units" 43 yX9_isTake "UnitVoices") U ∧ va_Nw (.methodLinkNest "UnitVoices$Text" 68 yX9_within "UnitVoices") U
def uvIj (G : UG) : Prop := ∀ i j : Nat, i < uvNN → j < uvNN → G.2.2.1 i = G.2.2.1 j → i = j
def uvGd (G : UG) (U : State) (H : Heap) : Prop := va_K G.1 uvCl (uvTy G) U ∧ uvIj G ∧ uvNs G U ∧ uvSs G U H
def uvIn (G : UG) (σ : St) (U : State) : Prop := va_P G.1 uvCl (uvWs G uvNN σ uvR0) U.heap ∧ uvGd G U U.heap
theorem uvSs.moved {G : UG} {u U : State} {H H1 : Heap} (hvm : u.vm.Alike U.vm) (hq : ∀ a : Nat, a < H.size → ¬ uvA G a → H1[a]? = H[a]?) (h : uvSs G u H) : uvSs G U H1 := by
  obtain ⟨h1, h2, v, hv, h3⟩ := h
  exact ⟨(h1.moved hvm).kept hq, (h2.moved hvm).kept hq, v, hv, (h3.moved hvm).kept hq⟩
theorem uvGd.warm {G : UG} {s U : State} {H H1 : Heap} (hW : s.WarmedH U.vm) (hq : ∀ a : Nat, a < H.size → ¬ uvA G a → H1[a]? = H[a]?) (h : uvGd G s H) : uvGd G U H1 := by
  obtain ⟨h1, h2, ⟨h3, h4, h5, h6⟩, h7⟩ := h
  exact ⟨h1.moved hW.alike, h2, ⟨h3.warm hW, h4.warm hW, h5.warmM hW, h6.warmM hW⟩, h7.moved hW.alike hq⟩
theorem uvGd.same {G : UG} {s U : State} {H : Heap} (hv : s.vm = U.vm) (h : uvGd G s H) : uvGd G U H := by
  obtain ⟨h1, h2, ⟨h3, h4, h5, h6⟩, h7⟩ := h
  have ha : s.vm.Alike U.vm := by rw [← hv]; exact Vm.Alike.refl s.vm
  exact ⟨h1.moved ha, h2, ⟨h3.same hv.symm, h4.same hv.symm, h5.same rfl hv, h6.same rfl hv⟩, h7.moved ha (fun _ _ _ => rfl)⟩
theorem uvD {G : UG} (h : uvIj G) (σ : St) (ρ : Int → Int → Option Int) : va_D (uvA G) (uvWs G uvNN σ ρ) := by
  have key : ∀ (k : Nat) (q : Nat × va_E), (uvWs G uvNN σ ρ)[k]? = some q → k < uvNN ∧ q.1 = G.2.2.1 k := by
    intro k q hk
    have hlt : k < uvNN := by
      have := (List.getElem?_eq_some_iff.mp hk).1
      simpa [uvWs] using this
    have e := uvWs_at (G := G) (n := uvNN) (σ := σ) (ρ := ρ) (o := (k : Int)) ⟨by omega, by omega⟩
    simp only [Int.toNat_natCast] at e
    rw [e] at hk
    cases hk
    exact ⟨hlt, rfl⟩
  refine ⟨fun i j p q hi hj e => ?_, fun k q hk => ?_⟩
  · obtain ⟨a1, a2⟩ := key i p hi
    obtain ⟨b1, b2⟩ := key j q hj
    exact h i j a1 b1 (by rw [← a2, ← b2]; exact e)
  · obtain ⟨a1, a2⟩ := key k q hk
    exact ⟨k, a1, a2.symm⟩
def uvCx (p : Program) (m : MethodId) (c : Code) (cc : ByteArray) (nL : Nat) (own : String) (s : State) (args : Array Value) (meth : Method) (rt : Option FieldType) : Prop :=
  p.tables.exec = Jvm.exec ∧ c.code = cc ∧ c.maxLocals = nL ∧ s.vm.findClass own = some m.cls ∧ (∀ w ∈ TB, w.before args s = true) ∧ meth.sig.returnType = rt ∧ meth.locks = false
def uvWo (G : UG) (σ : St) (s : State) (H : Heap) (locs : List Loc) : Prop := va_P G.1 uvCl (uvWs G uvNN σ uvR0) H ∧ va_S (uvA G) s.heap H locs
theorem uvWs_upF {G : UG} {n : Nat} {σ : St} {ρ : Int → Int → Option Int} {o x : Int} {j : Nat} (h : 0 ≤ o ∧ o < n) (hk : uvKd o < 11) (hi : uvIr (uvKd o) j = false) :
    (uvWs G n σ ρ).set o.toNat (G.2.2.1 o, .inr (uvKd o, (uvFs G.2.2.1 σ ρ o (uvKd o)).set j (.int (iV x)))) = uvWs G n (upS σ o j x) ρ := by
  obtain ⟨k, rfl⟩ := Int.eq_ofNat_of_zero_le h.1
  have hkn : k < n := by omega
  apply List.ext_getElem?
  intro q
  rw [List.getElem?_set]
  simp only [Int.toNat_natCast, uvWs, List.length_map, List.length_range]
  by_cases hq : k = q
  · subst hq
    rw [if_pos rfl, if_pos hkn]
    simp only [List.getElem?_map, List.getElem?_range hkn, Option.map_some, uvCe, hk, if_true]
    congr 4
    apply List.ext_getElem?
    intro z
    rw [List.getElem?_set]
    simp only [uvFs, List.length_map, List.length_range, List.getElem?_map]
    by_cases hz : j = z
    · subst hz
      rw [if_pos rfl]
      by_cases hl : j < uvNf (uvKd k)
      · rw [if_pos hl, List.getElem?_range hl]
        simp [hi, upS]
      · rw [if_neg hl, List.getElem?_eq_none (by simpa using hl)]
        rfl
    · rw [if_neg hz]
      by_cases hl : z < uvNf (uvKd k)
      · rw [List.getElem?_range hl]
        simp only [Option.map_some]
        have : ¬ (z : Int) = j := by omega
        simp [upS, this]
      · rw [List.getElem?_eq_none (by simpa using hl)]
        rfl
  · rw [if_neg hq]
    by_cases hl : q < n
    · simp only [List.getElem?_map, List.getElem?_range hl, Option.map_some]
      have hne : ∀ z : Int, ¬ ((q : Int) = k ∧ z = j) := by intro z; omega
      have e : uvCe G (upS σ k j x) ρ q = uvCe G σ ρ q := by simp [uvCe, uvFs, upS, hne]
      rw [e]
    · rw [List.getElem?_eq_none (by simpa using hl), List.getElem?_eq_none (by simpa using hl)]
theorem uvWs_upA {G : UG} {n : Nat} {σ : St} {ρ : Int → Int → Option Int} {o i x : Int} (h : 0 ≤ o ∧ o < n) (hk : uvKd o = 11) (hi : 0 ≤ i) :
    (uvWs G n σ ρ).set o.toNat (G.2.2.1 o, .inl (G.2.1 0, uvLn o, .inl (upd (fun j => iV (σ o j)) i.toNat (iV x)))) = uvWs G n (upS σ o i x) ρ := by
  obtain ⟨k, rfl⟩ := Int.eq_ofNat_of_zero_le h.1
  obtain ⟨i, rfl⟩ := Int.eq_ofNat_of_zero_le hi
  have hkn : k < n := by omega
  apply List.ext_getElem?
  intro q
  rw [List.getElem?_set]
  simp only [Int.toNat_natCast, uvWs, List.length_map, List.length_range]
  by_cases hq : k = q
  · subst hq
    rw [if_pos rfl, if_pos hkn]
    have e : upd (fun (j : Nat) => iV (σ k j)) i (iV x) = fun (j : Nat) => iV (upS σ k i x k j) := by
      funext z
      by_cases hz : z = i
      · subst hz; simp [upd, upS]
      · have : ¬ (z : Int) = i := by omega
        simp [upd, upS, hz, this]
    simp only [List.getElem?_map, List.getElem?_range hkn, Option.map_some, uvCe, hk]
    rw [e]
    rfl
  · rw [if_neg hq]
    by_cases hl : q < n
    · simp only [List.getElem?_map, List.getElem?_range hl, Option.map_some]
      have hne : ∀ z : Int, ¬ ((q : Int) = k ∧ z = i) := by intro z; omega
      have e : uvCe G (upS σ k i x) ρ q = uvCe G σ ρ q := by simp [uvCe, uvFs, upS, hne]
      rw [e]
    · rw [List.getElem?_eq_none (by simpa using hl), List.getElem?_eq_none (by simpa using hl)]
end
section
/-! ===== rows: an instruction each, over the store ===== -/
section UVR
variable {p : Program} {l : Launch} {e : Env} {R : Room} {s : State} {m : MethodId} {args : Array Value} {below : List Frame} {meth : Method} {c : Code} {H : Heap} {locs : List Loc} {cells slots : Nat} {Q : State → Prop}
variable {cc : ByteArray} {nL : Nat} {own : String} {rt : Option FieldType} {pc : Nat} {ls : Array Slot} {rest : List Value}
theorem r_ic (X : uvCx p m c cc nL own s args meth rt) {n : Int} (d : decode cc pc = .ok (.iconst n, 1)) (k : W p l e R s m args below meth c H locs cells slots Q (F0 m (pc + 1) ls (.int (iV n) :: rest))) : W p l e R s m args below meth c H locs cells slots Q (F0 m pc ls rest) := lv_iconst X.1 X.2.1 d rfl k
theorem r_bp (X : uvCx p m c cc nL own s args meth rt) {n : Int} (d : decode cc pc = .ok (.bipush n, 2)) (hv : (Int8.ofInt n).toInt32 = iV n) (k : W p l e R s m args below meth c H locs cells slots Q (F0 m (pc + 2) ls (.int (iV n) :: rest))) : W p l e R s m args below meth c H locs cells slots Q (F0 m pc ls rest) := lv_bipush X.1 X.2.1 d hv k
theorem r_sp (X : uvCx p m c cc nL own s args meth rt) {n : Int} (d : decode cc pc = .ok (.sipush n, 3)) (hv : (Int16.ofInt n).toInt32 = iV n) (k : W p l e R s m args below meth c H locs cells slots Q (F0 m (pc + 3) ls (.int (iV n) :: rest))) : W p l e R s m args below meth c H locs cells slots Q (F0 m pc ls rest) := lv_sipush X.1 X.2.1 d hv k
theorem r_lc (X : uvCx p m c cc nL own s args meth rt) {n : Fin 2} {v : Int} (d : decode cc pc = .ok (.lconst n, 1)) (hv : Int64.ofNat (n : Nat) = lV v) (k : W p l e R s m args below meth c H locs cells slots Q (F0 m (pc + 1) ls (.long (lV v) :: rest))) : W p l e R s m args below meth c H locs cells slots Q (F0 m pc ls rest) := lv_lconst X.1 X.2.1 d hv k
theorem r_ldc (X : uvCx p m c cc nL own s args meth rt) {index : Nat} {v : Int32} {n : Int} (hw : Jvm.Cond.constant own index v ∈ TB) (hv : v = iV n) (d : decode cc pc = .ok (.ldc index, 2)) (k : W p l e R s m args below meth c H locs cells slots Q (F0 m (pc + 2) ls (.int (iV n) :: rest))) : W p l e R s m args below meth c H locs cells slots Q (F0 m pc ls rest) := W.ldc X.1 X.2.1 X.2.2.2.1 (X.2.2.2.2.1 _ hw) rfl d (hv ▸ k)
theorem r_ldcw (X : uvCx p m c cc nL own s args meth rt) {index : Nat} {v : Int32} {n : Int} (hw : Jvm.Cond.constant own index v ∈ TB) (hv : v = iV n) (d : decode cc pc = .ok (.ldc_w index, 3)) (k : W p l e R s m args below meth c H locs cells slots Q (F0 m (pc + 3) ls (.int (iV n) :: rest))) : W p l e R s m args below meth c H locs cells slots Q (F0 m pc ls rest) := lv_ldcw X.1 X.2.1 X.2.2.2.1 (X.2.2.2.2.1 _ hw) d (hv ▸ k)
theorem r_ldc2 (X : uvCx p m c cc nL own s args meth rt) {index : Nat} {v : Int64} {n : Int} (hw : Jvm.Cond.constantLong own index v ∈ TB) (hv : v = lV n) (d : decode cc pc = .ok (.ldc2_w index, 3)) (k : W p l e R s m args below meth c H locs cells slots Q (F0 m (pc + 3) ls (.long (lV n) :: rest))) : W p l e R s m args below meth c H locs cells slots Q (F0 m pc ls rest) := lv_ldc2 X.1 X.2.1 X.2.2.2.1 (X.2.2.2.2.1 _ hw) d (hv ▸ k)
theorem r_iln (X : uvCx p m c cc nL own s args meth rt) {k0 : Fin 4} {i : Nat} {x : Int} (d : decode cc pc = .ok (.iload_n k0, 1)) (hi : (k0 : Nat) = i) (hl : ls[i]? = some (.val (.int (iV x)))) (k : W p l e R s m args below meth c H locs cells slots Q (F0 m (pc + 1) ls (.int (iV x) :: rest))) : W p l e R s m args below meth c H locs cells slots Q (F0 m pc ls rest) := lv_iload_n X.1 X.2.1 d hi hl k
theorem r_il (X : uvCx p m c cc nL own s args meth rt) {i : Nat} {x : Int} (d : decode cc pc = .ok (.iload i, 2)) (hl : ls[i]? = some (.val (.int (iV x)))) (k : W p l e R s m args below meth c H locs cells slots Q (F0 m (pc + 2) ls (.int (iV x) :: rest))) : W p l e R s m args below meth c H locs cells slots Q (F0 m pc ls rest) := lv_iload X.1 X.2.1 d hl k
theorem r_lln (X : uvCx p m c cc nL own s args meth rt) {k0 : Fin 4} {i : Nat} {x : Int} (d : decode cc pc = .ok (.lload_n k0, 1)) (hi : (k0 : Nat) = i) (hl : ls[i]? = some (.val (.long (lV x)))) (k : W p l e R s m args below meth c H locs cells slots Q (F0 m (pc + 1) ls (.long (lV x) :: rest))) : W p l e R s m args below meth c H locs cells slots Q (F0 m pc ls rest) := lv_lload_n X.1 X.2.1 d hi hl k
theorem r_ll (X : uvCx p m c cc nL own s args meth rt) {i : Nat} {x : Int} (d : decode cc pc = .ok (.lload i, 2)) (hl : ls[i]? = some (.val (.long (lV x)))) (k : W p l e R s m args below meth c H locs cells slots Q (F0 m (pc + 2) ls (.long (lV x) :: rest))) : W p l e R s m args below meth c H locs cells slots Q (F0 m pc ls rest) := lv_lload X.1 X.2.1 d hl k
theorem r_aln (X : uvCx p m c cc nL own s args meth rt) {k0 : Fin 4} {i x : Nat} (d : decode cc pc = .ok (.aload_n k0, 1)) (hi : (k0 : Nat) = i) (hl : ls[i]? = some (.val (.ref x))) (k : W p l e R s m args below meth c H locs cells slots Q (F0 m (pc + 1) ls (.ref x :: rest))) : W p l e R s m args below meth c H locs cells slots Q (F0 m pc ls rest) := lv_aload_n X.1 X.2.1 d hi hl k
theorem r_al (X : uvCx p m c cc nL own s args meth rt) {i x : Nat} (d : decode cc pc = .ok (.aload i, 2)) (hl : ls[i]? = some (.val (.ref x))) (k : W p l e R s m args below meth c H locs cells slots Q (F0 m (pc + 2) ls (.ref x :: rest))) : W p l e R s m args below meth c H locs cells slots Q (F0 m pc ls rest) := lv_aload X.1 X.2.1 d hl k
theorem r_isn (X : uvCx p m c cc nL own s args meth rt) {k0 : Fin 4} {i : Nat} {x : Int} {lv lv' : List (Nat × Value)} (d : decode cc pc = .ok (.istore_n k0, 1)) (hi : (k0 : Nat) = i) (h : lv_has ls nL lv) (hn : i < nL) (hl : (i, Value.int (iV x)) :: lv.filter (fun q => !(q.1 == i) && !(q.1 + 1 == i && q.2.category == 2)) = lv') (k : ∀ ls' : Array Slot, lv_has ls' nL lv' → W p l e R s m args below meth c H locs cells slots Q (F0 m (pc + 1) ls' rest)) : W p l e R s m args below meth c H locs cells slots Q (F0 m pc ls (.int (iV x) :: rest)) := lv_istore_n X.1 X.2.1 d hi h hn hl k
theorem r_is (X : uvCx p m c cc nL own s args meth rt) {i : Nat} {x : Int} {lv lv' : List (Nat × Value)} (d : decode cc pc = .ok (.istore i, 2)) (h : lv_has ls nL lv) (hn : i < nL) (hl : (i, Value.int (iV x)) :: lv.filter (fun q => !(q.1 == i) && !(q.1 + 1 == i && q.2.category == 2)) = lv') (k : ∀ ls' : Array Slot, lv_has ls' nL lv' → W p l e R s m args below meth c H locs cells slots Q (F0 m (pc + 2) ls' rest)) : W p l e R s m args below meth c H locs cells slots Q (F0 m pc ls (.int (iV x) :: rest)) := lv_istore X.1 X.2.1 d h hn hl k
theorem r_lsn (X : uvCx p m c cc nL own s args meth rt) {k0 : Fin 4} {i : Nat} {x : Int} {lv lv' : List (Nat × Value)} (d : decode cc pc = .ok (.lstore_n k0, 1)) (hi : (k0 : Nat) = i) (h : lv_has ls nL lv) (hn : i + 1 < nL) (hl : (i, Value.long (lV x)) :: lv.filter (fun q => !(q.1 == i) && (!(q.1 == i + 1) && !(q.1 + 1 == i && q.2.category == 2))) = lv') (k : ∀ ls' : Array Slot, lv_has ls' nL lv' → W p l e R s m args below meth c H locs cells slots Q (F0 m (pc + 1) ls' rest)) : W p l e R s m args below meth c H locs cells slots Q (F0 m pc ls (.long (lV x) :: rest)) := lv_lstore_n X.1 X.2.1 d hi h hn hl k
theorem r_ls (X : uvCx p m c cc nL own s args meth rt) {i : Nat} {x : Int} {lv lv' : List (Nat × Value)} (d : decode cc pc = .ok (.lstore i, 2)) (h : lv_has ls nL lv) (hn : i + 1 < nL) (hl : (i, Value.long (lV x)) :: lv.filter (fun q => !(q.1 == i) && (!(q.1 == i + 1) && !(q.1 + 1 == i && q.2.category == 2))) = lv') (k : ∀ ls' : Array Slot, lv_has ls' nL lv' → W p l e R s m args below meth c H locs cells slots Q (F0 m (pc + 2) ls' rest)) : W p l e R s m args below meth c H locs cells slots Q (F0 m pc ls (.long (lV x) :: rest)) := lv_lstore X.1 X.2.1 d h hn hl k
theorem r_asn (X : uvCx p m c cc nL own s args meth rt) {k0 : Fin 4} {i : Nat} {x : Nat} {lv lv' : List (Nat × Value)} (d : decode cc pc = .ok (.astore_n k0, 1)) (hi : (k0 : Nat) = i) (h : lv_has ls nL lv) (hn : i < nL) (hl : (i, Value.ref x) :: lv.filter (fun q => !(q.1 == i) && !(q.1 + 1 == i && q.2.category == 2)) = lv') (k : ∀ ls' : Array Slot, lv_has ls' nL lv' → W p l e R s m args below meth c H locs cells slots Q (F0 m (pc + 1) ls' rest)) : W p l e R s m args below meth c H locs cells slots Q (F0 m pc ls (.ref x :: rest)) := lv_astore_n X.1 X.2.1 d hi h hn hl k
theorem r_as (X : uvCx p m c cc nL own s args meth rt) {i : Nat} {x : Nat} {lv lv' : List (Nat × Value)} (d : decode cc pc = .ok (.astore i, 2)) (h : lv_has ls nL lv) (hn : i < nL) (hl : (i, Value.ref x) :: lv.filter (fun q => !(q.1 == i) && !(q.1 + 1 == i && q.2.category == 2)) = lv') (k : ∀ ls' : Array Slot, lv_has ls' nL lv' → W p l e R s m args below meth c H locs cells slots Q (F0 m (pc + 2) ls' rest)) : W p l e R s m args below meth c H locs cells slots Q (F0 m pc ls (.ref x :: rest)) := lv_astore X.1 X.2.1 d h hn hl k
theorem r_inc (X : uvCx p m c cc nL own s args meth rt) {i kk : Nat} {n x : Int} {lv lv' : List (Nat × Value)} (d : decode cc pc = .ok (.iinc i n, 3)) (h : lv_has ls nL lv) (hk : lv[kk]? = some (i, .int (iV x))) (hn : i < nL) (hl : (i, Value.int (iV (x + n))) :: lv.filter (fun q => !(q.1 == i) && !(q.1 + 1 == i && q.2.category == 2)) = lv') (k : ∀ ls' : Array Slot, lv_has ls' nL lv' → W p l e R s m args below meth c H locs cells slots Q (F0 m (pc + 3) ls' rest)) : W p l e R s m args below meth c H locs cells slots Q (F0 m pc ls rest) := lv_iinc X.1 X.2.1 d h hk (iV_add x n) hn hl k
theorem r_iadd (X : uvCx p m c cc nL own s args meth rt) {x y : Int} (d : decode cc pc = .ok (.iadd, 1)) (k : W p l e R s m args below meth c H locs cells slots Q (F0 m (pc + 1) ls (.int (iV (x + y)) :: rest))) : W p l e R s m args below meth c H locs cells slots Q (F0 m pc ls (.int (iV y) :: .int (iV x) :: rest)) := lv_iadd X.1 X.2.1 d (by rw [iV_add x y]; exact k)
theorem r_isub (X : uvCx p m c cc nL own s args meth rt) {x y : Int} (d : decode cc pc = .ok (.isub, 1)) (k : W p l e R s m args below meth c H locs cells slots Q (F0 m (pc + 1) ls (.int (iV (x - y)) :: rest))) : W p l e R s m args below meth c H locs cells slots Q (F0 m pc ls (.int (iV y) :: .int (iV x) :: rest)) := lv_isub X.1 X.2.1 d (by rw [iV_sub x y]; exact k)
theorem r_imul (X : uvCx p m c cc nL own s args meth rt) {x y : Int} (d : decode cc pc = .ok (.imul, 1)) (k : W p l e R s m args below meth c H locs cells slots Q (F0 m (pc + 1) ls (.int (iV (x * y)) :: rest))) : W p l e R s m args below meth c H locs cells slots Q (F0 m pc ls (.int (iV y) :: .int (iV x) :: rest)) := lv_imul X.1 X.2.1 d (by rw [iV_mul x y]; exact k)
theorem r_ladd (X : uvCx p m c cc nL own s args meth rt) {x y : Int} (d : decode cc pc = .ok (.ladd, 1)) (k : W p l e R s m args below meth c H locs cells slots Q (F0 m (pc + 1) ls (.long (lV (x + y)) :: rest))) : W p l e R s m args below meth c H locs cells slots Q (F0 m pc ls (.long (lV y) :: .long (lV x) :: rest)) := lv_ladd X.1 X.2.1 d (by rw [lV_add x y]; exact k)
theorem r_lsub (X : uvCx p m c cc nL own s args meth rt) {x y : Int} (d : decode cc pc = .ok (.lsub, 1)) (k : W p l e R s m args below meth c H locs cells slots Q (F0 m (pc + 1) ls (.long (lV (x - y)) :: rest))) : W p l e R s m args below meth c H locs cells slots Q (F0 m pc ls (.long (lV y) :: .long (lV x) :: rest)) := lv_lsub X.1 X.2.1 d (by rw [lV_sub x y]; exact k)
theorem r_lmul (X : uvCx p m c cc nL own s args meth rt) {x y : Int} (d : decode cc pc = .ok (.lmul, 1)) (k : W p l e R s m args below meth c H locs cells slots Q (F0 m (pc + 1) ls (.long (lV (x * y)) :: rest))) : W p l e R s m args below meth c H locs cells slots Q (F0 m pc ls (.long (lV y) :: .long (lV x) :: rest)) := lv_lmul X.1 X.2.1 d (by rw [lV_mul x y]; exact k)
theorem r_ishl (X : uvCx p m c cc nL own s args meth rt) {x y : Int} (d : decode cc pc = .ok (.ishl, 1)) (k : W p l e R s m args below meth c H locs cells slots Q (F0 m (pc + 1) ls (.int (iV (shlI x y)) :: rest))) : W p l e R s m args below meth c H locs cells slots Q (F0 m pc ls (.int (iV y) :: .int (iV x) :: rest)) := lv_ishl X.1 X.2.1 d (by have e : iV (shlI x y) = _ := Int32.ofInt_toInt _; rw [e] at k; exact k)
theorem r_ishr (X : uvCx p m c cc nL own s args meth rt) {x y : Int} (d : decode cc pc = .ok (.ishr, 1)) (k : W p l e R s m args below meth c H locs cells slots Q (F0 m (pc + 1) ls (.int (iV (shrI x y)) :: rest))) : W p l e R s m args below meth c H locs cells slots Q (F0 m pc ls (.int (iV y) :: .int (iV x) :: rest)) := lv_ishr X.1 X.2.1 d (by have e : iV (shrI x y) = _ := Int32.ofInt_toInt _; rw [e] at k; exact k)
theorem r_iand (X : uvCx p m c cc nL own s args meth rt) {x y : Int} (d : decode cc pc = .ok (.iand, 1)) (k : W p l e R s m args below meth c H locs cells slots Q (F0 m (pc + 1) ls (.int (iV (andI x y)) :: rest))) : W p l e R s m args below meth c H locs cells slots Q (F0 m pc ls (.int (iV y) :: .int (iV x) :: rest)) := lv_iand X.1 X.2.1 d (by have e : iV (andI x y) = _ := Int32.ofInt_toInt _; rw [e] at k; exact k)
theorem r_ior (X : uvCx p m c cc nL own s args meth rt) {x y : Int} (d : decode cc pc = .ok (.ior, 1)) (k : W p l e R s m args below meth c H locs cells slots Q (F0 m (pc + 1) ls (.int (iV (orI x y)) :: rest))) : W p l e R s m args below meth c H locs cells slots Q (F0 m pc ls (.int (iV y) :: .int (iV x) :: rest)) := lv_ior X.1 X.2.1 d (by have e : iV (orI x y) = _ := Int32.ofInt_toInt _; rw [e] at k; exact k)
theorem r_idiv (X : uvCx p m c cc nL own s args meth rt) {x y : Int} (hne : ¬ iV y = 0) (d : decode cc pc = .ok (.idiv, 1)) (k : W p l e R s m args below meth c H locs cells slots Q (F0 m (pc + 1) ls (.int (iV (divI x y)) :: rest))) : W p l e R s m args below meth c H locs cells slots Q (F0 m pc ls (.int (iV y) :: .int (iV x) :: rest)) := lv_idiv X.1 X.2.1 d hne (by have e : iV (divI x y) = _ := Int32.ofInt_toInt _; rw [e] at k; exact k)
theorem r_ineg (X : uvCx p m c cc nL own s args meth rt) {x : Int} (d : decode cc pc = .ok (.ineg, 1)) (k : W p l e R s m args below meth c H locs cells slots Q (F0 m (pc + 1) ls (.int (iV (negI x)) :: rest))) : W p l e R s m args below meth c H locs cells slots Q (F0 m pc ls (.int (iV x) :: rest)) := lv_ineg X.1 X.2.1 d (by have e : iV (negI x) = _ := Int32.ofInt_toInt _; rw [e] at k; exact k)
theorem r_ldiv (X : uvCx p m c cc nL own s args meth rt) {x y : Int} (hne : ¬ lV y = 0) (d : decode cc pc = .ok (.ldiv, 1)) (k : W p l e R s m args below meth c H locs cells slots Q (F0 m (pc + 1) ls (.long (lV (divL x y)) :: rest))) : W p l e R s m args below meth c H locs cells slots Q (F0 m pc ls (.long (lV y) :: .long (lV x) :: rest)) := lv_ldiv X.1 X.2.1 d hne (by have e : lV (divL x y) = _ := Int64.ofInt_toInt _; rw [e] at k; exact k)
theorem r_lrem (X : uvCx p m c cc nL own s args meth rt) {x y : Int} (hne : ¬ lV y = 0) (d : decode cc pc = .ok (.lrem, 1)) (k : W p l e R s m args below meth c H locs cells slots Q (F0 m (pc + 1) ls (.long (lV (remL x y)) :: rest))) : W p l e R s m args below meth c H locs cells slots Q (F0 m pc ls (.long (lV y) :: .long (lV x) :: rest)) := lv_lrem X.1 X.2.1 d hne (by have e : lV (remL x y) = _ := Int64.ofInt_toInt _; rw [e] at k; exact k)
theorem r_land (X : uvCx p m c cc nL own s args meth rt) {x y : Int} (d : decode cc pc = .ok (.land, 1)) (k : W p l e R s m args below meth c H locs cells slots Q (F0 m (pc + 1) ls (.long (lV (andL x y)) :: rest))) : W p l e R s m args below meth c H locs cells slots Q (F0 m pc ls (.long (lV y) :: .long (lV x) :: rest)) := lv_land X.1 X.2.1 d (by have e : lV (andL x y) = _ := Int64.ofInt_toInt _; rw [e] at k; exact k)
theorem r_lor (X : uvCx p m c cc nL own s args meth rt) {x y : Int} (d : decode cc pc = .ok (.lor, 1)) (k : W p l e R s m args below meth c H locs cells slots Q (F0 m (pc + 1) ls (.long (lV (orL x y)) :: rest))) : W p l e R s m args below meth c H locs cells slots Q (F0 m pc ls (.long (lV y) :: .long (lV x) :: rest)) := lv_lor X.1 X.2.1 d (by have e : lV (orL x y) = _ := Int64.ofInt_toInt _; rw [e] at k; exact k)
theorem r_lshl (X : uvCx p m c cc nL own s args meth rt) {x y : Int} (d : decode cc pc = .ok (.lshl, 1)) (k : W p l e R s m args below meth c H locs cells slots Q (F0 m (pc + 1) ls (.long (lV (shlL x y)) :: rest))) : W p l e R s m args below meth c H locs cells slots Q (F0 m pc ls (.int (iV y) :: .long (lV x) :: rest)) := lv_lshl X.1 X.2.1 d (Int64.ofInt_toInt _).symm k
theorem r_lushr (X : uvCx p m c cc nL own s args meth rt) {x y : Int} (d : decode cc pc = .ok (.lushr, 1)) (k : W p l e R s m args below meth c H locs cells slots Q (F0 m (pc + 1) ls (.long (lV (ushrL x y)) :: rest))) : W p l e R s m args below meth c H locs cells slots Q (F0 m pc ls (.int (iV y) :: .long (lV x) :: rest)) := lv_lushr X.1 X.2.1 d (Int64.ofInt_toInt _).symm k
theorem i2l_eq (x : Int) : (iV x).toInt64 = lV (i2lI x) := by
  apply Int64.toInt_inj.mp
  have h := wI_rng x
  rw [Int32.toInt_toInt64]
  show wI x = wL (wI x)
  rw [wL_id (by omega) (by omega)]
theorem l2i_eq (x : Int) : (lV x).toInt32 = iV x := by
  unfold lV iV
  first | exact Int64.toInt32_ofInt x | simp
theorem r_i2l (X : uvCx p m c cc nL own s args meth rt) {x : Int} (d : decode cc pc = .ok (.i2l, 1)) (k : W p l e R s m args below meth c H locs cells slots Q (F0 m (pc + 1) ls (.long (lV (i2lI x)) :: rest))) : W p l e R s m args below meth c H locs cells slots Q (F0 m pc ls (.int (iV x) :: rest)) := lv_i2l X.1 X.2.1 d (i2l_eq x) k
theorem r_l2i (X : uvCx p m c cc nL own s args meth rt) {x : Int} (d : decode cc pc = .ok (.l2i, 1)) (k : W p l e R s m args below meth c H locs cells slots Q (F0 m (pc + 1) ls (.int (iV x) :: rest))) : W p l e R s m args below meth c H locs cells slots Q (F0 m pc ls (.long (lV x) :: rest)) := lv_l2i X.1 X.2.1 d (l2i_eq x) k
theorem cmp_eq (x y : Int) : lg_cmp (lV x) (lV y) = iV (cmpL x y) := by
  unfold lg_cmp cmpL
  by_cases h : wL y < wL x
  · have h2 : lV x > lV y := (lV_lt y x).mpr h
    rw [if_pos h, if_pos h2]; rfl
  · have h2 : ¬ lV x > lV y := fun z => h ((lV_lt y x).mp z)
    rw [if_neg h, if_neg h2]
    by_cases h3 : wL x = wL y
    · rw [if_pos h3, if_pos ((lV_eq x y).mpr h3)]; rfl
    · rw [if_neg h3, if_neg (fun z => h3 ((lV_eq x y).mp z))]; rfl
theorem wI_cmp (x y : Int) : wI (cmpL x y) = cmpL x y := by
  unfold cmpL
  by_cases h : wL y < wL x
  · rw [if_pos h]; rfl
  · rw [if_neg h]
    by_cases h3 : wL x = wL y
    · rw [if_pos h3]; rfl
    · rw [if_neg h3]; rfl
theorem r_lcmp (X : uvCx p m c cc nL own s args meth rt) {x y : Int} (d : decode cc pc = .ok (.lcmp, 1)) (k : W p l e R s m args below meth c H locs cells slots Q (F0 m (pc + 1) ls (.int (iV (cmpL x y)) :: rest))) : W p l e R s m args below meth c H locs cells slots Q (F0 m pc ls (.long (lV y) :: .long (lV x) :: rest)) := W.lcmp X.1 X.2.1 d (by rw [cmp_eq]; exact k)
theorem r_dup (X : uvCx p m c cc nL own s args meth rt) {va : Value} (d : decode cc pc = .ok (.dup, 1)) (hva : va.category = 1) (k : W p l e R s m args below meth c H locs cells slots Q (F0 m (pc + 1) ls (va :: va :: rest))) : W p l e R s m args below meth c H locs cells slots Q (F0 m pc ls (va :: rest)) := lv_dup X.1 X.2.1 d hva k
theorem r_dup2 (X : uvCx p m c cc nL own s args meth rt) {va vb : Value} (d : decode cc pc = .ok (.dup2, 1)) (hva : va.category = 1) (hvb : vb.category = 1) (k : W p l e R s m args below meth c H locs cells slots Q (F0 m (pc + 1) ls (va :: vb :: va :: vb :: rest))) : W p l e R s m args below meth c H locs cells slots Q (F0 m pc ls (va :: vb :: rest)) := lv_dup2_11 X.1 X.2.1 d hva hvb k
theorem r_pop (X : uvCx p m c cc nL own s args meth rt) {va : Value} (d : decode cc pc = .ok (.pop, 1)) (hva : va.category = 1) (k : W p l e R s m args below meth c H locs cells slots Q (F0 m (pc + 1) ls rest)) : W p l e R s m args below meth c H locs cells slots Q (F0 m pc ls (va :: rest)) := lv_pop X.1 X.2.1 d hva k
theorem r_goto (X : uvCx p m c cc nL own s args meth rt) {off : Int} {tgt : Nat} (d : decode cc pc = .ok (.goto off, 3)) (ht : (pc : Int) + off = (tgt : Int)) (k : W p l e R s m args below meth c H locs cells slots Q (F0 m tgt ls rest)) : W p l e R s m args below meth c H locs cells slots Q (F0 m pc ls rest) := lv_goto X.1 X.2.1 d ht k
theorem wI_z : (0 : Int32) = iV 0 := rfl
theorem r_eq (X : uvCx p m c cc nL own s args meth rt) {x cx off : Int} {tgt : Nat} (hx : wI x = cx) (d : decode cc pc = .ok (.ifCond .eq off, 3)) (ht : (pc : Int) + off = (tgt : Int)) (kt : cx = 0 → W p l e R s m args below meth c H locs cells slots Q (F0 m tgt ls rest)) (kf : ¬ cx = 0 → W p l e R s m args below meth c H locs cells slots Q (F0 m (pc + 3) ls rest)) : W p l e R s m args below meth c H locs cells slots Q (F0 m pc ls (.int (iV x) :: rest)) := by
  subst hx
  have q : iV x = 0 ↔ wI x = 0 := iV_eq x 0
  exact lv_if_eq X.1 X.2.1 d ht (fun h => kt (q.mp h)) (fun h => kf (fun z => h (q.mpr z)))
theorem r_ne (X : uvCx p m c cc nL own s args meth rt) {x cx off : Int} {tgt : Nat} (hx : wI x = cx) (d : decode cc pc = .ok (.ifCond .ne off, 3)) (ht : (pc : Int) + off = (tgt : Int)) (kt : cx = 0 → W p l e R s m args below meth c H locs cells slots Q (F0 m (pc + 3) ls rest)) (kf : ¬ cx = 0 → W p l e R s m args below meth c H locs cells slots Q (F0 m tgt ls rest)) : W p l e R s m args below meth c H locs cells slots Q (F0 m pc ls (.int (iV x) :: rest)) := by
  subst hx
  have q : iV x = 0 ↔ wI x = 0 := iV_eq x 0
  exact lv_if_ne X.1 X.2.1 d ht (fun h => kf (fun z => h (q.mpr z))) (fun h => kt (q.mp h))
theorem r_lt (X : uvCx p m c cc nL own s args meth rt) {x cx off : Int} {tgt : Nat} (hx : wI x = cx) (d : decode cc pc = .ok (.ifCond .lt off, 3)) (ht : (pc : Int) + off = (tgt : Int)) (kt : cx < 0 → W p l e R s m args below meth c H locs cells slots Q (F0 m tgt ls rest)) (kf : ¬ cx < 0 → W p l e R s m args below meth c H locs cells slots Q (F0 m (pc + 3) ls rest)) : W p l e R s m args below meth c H locs cells slots Q (F0 m pc ls (.int (iV x) :: rest)) := by
  subst hx
  have q : iV x < 0 ↔ wI x < 0 := iV_lt x 0
  exact lv_if_lt X.1 X.2.1 d ht (fun h => kt (q.mp h)) (fun h => kf (fun z => h (q.mpr z)))
theorem r_gt (X : uvCx p m c cc nL own s args meth rt) {x cx off : Int} {tgt : Nat} (hx : wI x = cx) (d : decode cc pc = .ok (.ifCond .gt off, 3)) (ht : (pc : Int) + off = (tgt : Int)) (kt : 0 < cx → W p l e R s m args below meth c H locs cells slots Q (F0 m tgt ls rest)) (kf : ¬ 0 < cx → W p l e R s m args below meth c H locs cells slots Q (F0 m (pc + 3) ls rest)) : W p l e R s m args below meth c H locs cells slots Q (F0 m pc ls (.int (iV x) :: rest)) := by
  subst hx
  have q : 0 < iV x ↔ 0 < wI x := iV_lt 0 x
  exact lv_if_gt X.1 X.2.1 d ht (fun h => kt (q.mp h)) (fun h => kf (fun z => h (q.mpr z)))
theorem r_ge (X : uvCx p m c cc nL own s args meth rt) {x cx off : Int} {tgt : Nat} (hx : wI x = cx) (d : decode cc pc = .ok (.ifCond .ge off, 3)) (ht : (pc : Int) + off = (tgt : Int)) (kt : cx < 0 → W p l e R s m args below meth c H locs cells slots Q (F0 m (pc + 3) ls rest)) (kf : ¬ cx < 0 → W p l e R s m args below meth c H locs cells slots Q (F0 m tgt ls rest)) : W p l e R s m args below meth c H locs cells slots Q (F0 m pc ls (.int (iV x) :: rest)) := by
  subst hx
  have q : 0 ≤ iV x ↔ 0 ≤ wI x := iV_le 0 x
  exact lv_if_ge X.1 X.2.1 d ht (fun h => kf (by have := q.mp h; omega)) (fun h => kt (by have : ¬ 0 ≤ wI x := fun z => h (q.mpr z); omega))
theorem r_le (X : uvCx p m c cc nL own s args meth rt) {x cx off : Int} {tgt : Nat} (hx : wI x = cx) (d : decode cc pc = .ok (.ifCond .le off, 3)) (ht : (pc : Int) + off = (tgt : Int)) (kt : 0 < cx → W p l e R s m args below meth c H locs cells slots Q (F0 m (pc + 3) ls rest)) (kf : ¬ 0 < cx → W p l e R s m args below meth c H locs cells slots Q (F0 m tgt ls rest)) : W p l e R s m args below meth c H locs cells slots Q (F0 m pc ls (.int (iV x) :: rest)) := by
  subst hx
  have q : iV x ≤ 0 ↔ wI x ≤ 0 := iV_le x 0
  exact lv_if_le X.1 X.2.1 d ht (fun h => kf (by have := q.mp h; omega)) (fun h => kt (by have : ¬ wI x ≤ 0 := fun z => h (q.mpr z); omega))
theorem r_ceq (X : uvCx p m c cc nL own s args meth rt) {x y cx cy off : Int} {tgt : Nat} (hx : wI x = cx) (hy : wI y = cy) (d : decode cc pc = .ok (.if_icmp .eq off, 3)) (ht : (pc : Int) + off = (tgt : Int)) (kt : cx = cy → W p l e R s m args below meth c H locs cells slots Q (F0 m tgt ls rest)) (kf : ¬ cx = cy → W p l e R s m args below meth c H locs cells slots Q (F0 m (pc + 3) ls rest)) : W p l e R s m args below meth c H locs cells slots Q (F0 m pc ls (.int (iV y) :: .int (iV x) :: rest)) := by
  subst hx; subst hy
  exact lv_icmp_eq X.1 X.2.1 d ht (fun h => kt ((iV_eq x y).mp h)) (fun h => kf (fun z => h ((iV_eq x y).mpr z)))
theorem r_cne (X : uvCx p m c cc nL own s args meth rt) {x y cx cy off : Int} {tgt : Nat} (hx : wI x = cx) (hy : wI y = cy) (d : decode cc pc = .ok (.if_icmp .ne off, 3)) (ht : (pc : Int) + off = (tgt : Int)) (kt : cx = cy → W p l e R s m args below meth c H locs cells slots Q (F0 m (pc + 3) ls rest)) (kf : ¬ cx = cy → W p l e R s m args below meth c H locs cells slots Q (F0 m tgt ls rest)) : W p l e R s m args below meth c H locs cells slots Q (F0 m pc ls (.int (iV y) :: .int (iV x) :: rest)) := by
  subst hx; subst hy
  exact lv_icmp_ne X.1 X.2.1 d ht (fun h => kf (fun z => h ((iV_eq x y).mpr z))) (fun h => kt ((iV_eq x y).mp h))
theorem r_clt (X : uvCx p m c cc nL own s args meth rt) {x y cx cy off : Int} {tgt : Nat} (hx : wI x = cx) (hy : wI y = cy) (d : decode cc pc = .ok (.if_icmp .lt off, 3)) (ht : (pc : Int) + off = (tgt : Int)) (kt : cx < cy → W p l e R s m args below meth c H locs cells slots Q (F0 m tgt ls rest)) (kf : ¬ cx < cy → W p l e R s m args below meth c H locs cells slots Q (F0 m (pc + 3) ls rest)) : W p l e R s m args below meth c H locs cells slots Q (F0 m pc ls (.int (iV y) :: .int (iV x) :: rest)) := by
  subst hx; subst hy
  exact lv_icmp_lt X.1 X.2.1 d ht (fun h => kt ((iV_lt x y).mp h)) (fun h => kf (fun z => h ((iV_lt x y).mpr z)))
theorem r_cge (X : uvCx p m c cc nL own s args meth rt) {x y cx cy off : Int} {tgt : Nat} (hx : wI x = cx) (hy : wI y = cy) (d : decode cc pc = .ok (.if_icmp .ge off, 3)) (ht : (pc : Int) + off = (tgt : Int)) (kt : cx < cy → W p l e R s m args below meth c H locs cells slots Q (F0 m (pc + 3) ls rest)) (kf : ¬ cx < cy → W p l e R s m args below meth c H locs cells slots Q (F0 m tgt ls rest)) : W p l e R s m args below meth c H locs cells slots Q (F0 m pc ls (.int (iV y) :: .int (iV x) :: rest)) := by
  subst hx; subst hy
  exact lv_icmp_ge X.1 X.2.1 d ht (fun h => kf (by have := (iV_le y x).mp h; omega)) (fun h => kt (by have : ¬ wI y ≤ wI x := fun z => h ((iV_le y x).mpr z); omega))
theorem r_cgt (X : uvCx p m c cc nL own s args meth rt) {x y cx cy off : Int} {tgt : Nat} (hx : wI x = cx) (hy : wI y = cy) (d : decode cc pc = .ok (.if_icmp .gt off, 3)) (ht : (pc : Int) + off = (tgt : Int)) (kt : cy < cx → W p l e R s m args below meth c H locs cells slots Q (F0 m tgt ls rest)) (kf : ¬ cy < cx → W p l e R s m args below meth c H locs cells slots Q (F0 m (pc + 3) ls rest)) : W p l e R s m args below meth c H locs cells slots Q (F0 m pc ls (.int (iV y) :: .int (iV x) :: rest)) := by
  subst hx; subst hy
  exact lv_icmp_gt X.1 X.2.1 d ht (fun h => kt ((iV_lt y x).mp h)) (fun h => kf (fun z => h ((iV_lt y x).mpr z)))
theorem r_cle (X : uvCx p m c cc nL own s args meth rt) {x y cx cy off : Int} {tgt : Nat} (hx : wI x = cx) (hy : wI y = cy) (d : decode cc pc = .ok (.if_icmp .le off, 3)) (ht : (pc : Int) + off = (tgt : Int)) (kt : cy < cx → W p l e R s m args below meth c H locs cells slots Q (F0 m (pc + 3) ls rest)) (kf : ¬ cy < cx → W p l e R s m args below meth c H locs cells slots Q (F0 m tgt ls rest)) : W p l e R s m args below meth c H locs cells slots Q (F0 m pc ls (.int (iV y) :: .int (iV x) :: rest)) := by
  subst hx; subst hy
  exact lv_icmp_le X.1 X.2.1 d ht (fun h => kf (by have := (iV_le x y).mp h; omega)) (fun h => kt (by have : ¬ wI x ≤ wI y := fun z => h ((iV_le x y).mpr z); omega))
theorem wI_01 {x : Int} (h : x = 0 ∨ x = 1) : wI x = x := by rcases h with rfl | rfl <;> rfl
theorem r_tbo (X : uvCx p m c cc nL own s args meth rt) {x cx dflt lo hi : Int} {offs : Array Int} {len tgt : Nat} (hx : wI x = cx) (d : decode cc pc = .ok (.tableswitch dflt lo hi offs, len)) (h : cx < lo ∨ hi < cx) (ht : (pc : Int) + dflt = (tgt : Int)) (k : W p l e R s m args below meth c H locs cells slots Q (F0 m tgt ls rest)) : W p l e R s m args below meth c H locs cells slots Q (F0 m pc ls (.int (iV x) :: rest)) := by
  subst hx
  exact lv_tableOut X.1 X.2.1 d h ht k
theorem r_tbi (X : uvCx p m c cc nL own s args meth rt) {x cx dflt lo hi v off : Int} {offs : Array Int} {len tgt : Nat} (hx : wI x = cx) (d : decode cc pc = .ok (.tableswitch dflt lo hi offs, len)) (h : cx = v) (h1 : ¬ v < lo) (h2 : ¬ hi < v) (ho : offs[(v - lo).toNat]? = some off) (ht : (pc : Int) + off = (tgt : Int)) (k : W p l e R s m args below meth c H locs cells slots Q (F0 m tgt ls rest)) : W p l e R s m args below meth c H locs cells slots Q (F0 m pc ls (.int (iV x) :: rest)) := by
  subst hx; subst h
  exact lv_tableIn X.1 X.2.1 d h1 h2 ho ht k
theorem r_lk (X : uvCx p m c cc nL own s args meth rt) {x cx dflt off : Int} {ps : Array (Int × Int)} {len tgt : Nat} (hx : wI x = cx) (d : decode cc pc = .ok (.lookupswitch dflt ps, len)) (hp : (ps.toList.zip (ps.toList.drop 1)).all (fun (a, next) => a.1 < next.1) = true) (ho : Op.lookupswitch.offset ps.toList dflt cx = off) (ht : (pc : Int) + off = (tgt : Int)) (k : W p l e R s m args below meth c H locs cells slots Q (F0 m tgt ls rest)) : W p l e R s m args below meth c H locs cells slots Q (F0 m pc ls (.int (iV x) :: rest)) := by
  subst hx
  exact lv_lookup X.1 X.2.1 d hp ho ht k
end UVR
end
section
theorem li_0 : ∀ w ∈ u_ws RX0 TX0 7, w ∈ TB := List.forall_mem_cons.mpr ⟨tb_in (i := 381) (by decide +kernel) rfl, List.forall_mem_cons.mpr ⟨tb_in (i := 383) (by decide +kernel) rfl, List.forall_mem_cons.mpr ⟨tb_in (i := 385) (by decide +kernel) rfl, List.forall_mem_cons.mpr ⟨tb_in (i := 387) (by decide +kernel) rfl, List.forall_mem_cons.mpr ⟨tb_in (i := 389) (by decide +kernel) rfl, List.forall_mem_cons.mpr ⟨tb_in (i := 391) (by decide +kernel) rfl, List.forall_mem_cons.mpr ⟨tb_in (i := 393) (by decide +kernel) rfl, fun _ h => absurd h List.not_mem_nil⟩⟩⟩⟩⟩⟩⟩
theorem li_1 : ∀ w ∈ u_ws RX1 TX1 4, w ∈ TB := List.forall_mem_cons.mpr ⟨tb_in (i := 285) (by decide +kernel) rfl, List.forall_mem_cons.mpr ⟨tb_in (i := 287) (by decide +kernel) rfl, List.forall_mem_cons.mpr ⟨tb_in (i := 289) (by decide +kernel) rfl, List.forall_mem_cons.mpr ⟨tb_in (i := 291) (by decide +kernel) rfl, fun _ h => absurd h List.not_mem_nil⟩⟩⟩⟩
theorem li_2 : ∀ w ∈ u_ws RX2 TX2 6, w ∈ TB := List.forall_mem_cons.mpr ⟨tb_in (i := 301) (by decide +kernel) rfl, List.forall_mem_cons.mpr ⟨tb_in (i := 303) (by decide +kernel) rfl, List.forall_mem_cons.mpr ⟨tb_in (i := 305) (by decide +kernel) rfl, List.forall_mem_cons.mpr ⟨tb_in (i := 307) (by decide +kernel) rfl, List.forall_mem_cons.mpr ⟨tb_in (i := 309) (by decide +kernel) rfl, List.forall_mem_cons.mpr ⟨tb_in (i := 311) (by decide +kernel) rfl, fun _ h => absurd h List.not_mem_nil⟩⟩⟩⟩⟩⟩
theorem li_3 : ∀ w ∈ u_ws RX3 TX3 2, w ∈ TB := List.forall_mem_cons.mpr ⟨tb_in (i := 322) (by decide +kernel) rfl, List.forall_mem_cons.mpr ⟨tb_in (i := 324) (by decide +kernel) rfl, fun _ h => absurd h List.not_mem_nil⟩⟩
theorem li_4 : ∀ w ∈ u_ws RX4 TX4 4, w ∈ TB := List.forall_mem_cons.mpr ⟨tb_in (i := 170) (by decide +kernel) rfl, List.forall_mem_cons.mpr ⟨tb_in (i := 172) (by decide +kernel) rfl, List.forall_mem_cons.mpr ⟨tb_in (i := 174) (by decide +kernel) rfl, List.forall_mem_cons.mpr ⟨tb_in (i := 176) (by decide +kernel) rfl, fun _ h => absurd h List.not_mem_nil⟩⟩⟩⟩
theorem li_5 : ∀ w ∈ u_ws RX5 TX5 5, w ∈ TB := List.forall_mem_cons.mpr ⟨tb_in (i := 353) (by decide +kernel) rfl, List.forall_mem_cons.mpr ⟨tb_in (i := 355) (by decide +kernel) rfl, List.forall_mem_cons.mpr ⟨tb_in (i := 357) (by decide +kernel) rfl, List.forall_mem_cons.mpr ⟨tb_in (i := 359) (by decide +kernel) rfl, List.forall_mem_cons.mpr ⟨tb_in (i := 361) (by decide +kernel) rfl, fun _ h => absurd h List.not_mem_nil⟩⟩⟩⟩⟩
theorem li_6 : ∀ w ∈ u_ws RX6 TX6 7, w ∈ TB := List.forall_mem_cons.mpr ⟨tb_in (i := 244) (by decide +kernel) rfl, List.forall_mem_cons.mpr ⟨tb_in (i := 246) (by decide +kernel) rfl, List.forall_mem_cons.mpr ⟨tb_in (i := 248) (by decide +kernel) rfl, List.forall_mem_cons.mpr ⟨tb_in (i := 250) (by decide +kernel) rfl, List.forall_mem_cons.mpr ⟨tb_in (i := 252) (by decide +kernel) rfl, List.forall_mem_cons.mpr ⟨tb_in (i := 254) (by decide +kernel) rfl, List.forall_mem_cons.mpr ⟨tb_in (i := 256) (by decide +kernel) rfl, fun _ h => absurd h List.not_mem_nil⟩⟩⟩⟩⟩⟩⟩
theorem li_7 : ∀ w ∈ u_ws RX7 TX7 9, w ∈ TB := List.forall_mem_cons.mpr ⟨tb_in (i := 204) (by decide +kernel) rfl, List.forall_mem_cons.mpr ⟨tb_in (i := 206) (by decide +kernel) rfl, List.forall_mem_cons.mpr ⟨tb_in (i := 208) (by decide +kernel) rfl, List.forall_mem_cons.mpr ⟨tb_in (i := 210) (by decide +kernel) rfl, List.forall_mem_cons.mpr ⟨tb_in (i := 212) (by decide +kernel) rfl, List.forall_mem_cons.mpr ⟨tb_in (i := 214) (by decide +kernel) rfl, List.forall_mem_cons.mpr ⟨tb_in (i := 216) (by decide +kernel) rfl, List.forall_mem_cons.mpr ⟨tb_in (i := 218) (by decide +kernel) rfl, List.forall_mem_cons.mpr ⟨tb_in (i := 220) (by decide +kernel) rfl, fun _ h => absurd h List.not_mem_nil⟩⟩⟩⟩⟩⟩⟩⟩⟩
theorem li_8 : ∀ w ∈ u_ws RX8 TX8 9, w ∈ TB := List.forall_mem_cons.mpr ⟨tb_in (i := 128) (by decide +kernel) rfl, List.forall_mem_cons.mpr ⟨tb_in (i := 130) (by decide +kernel) rfl, List.forall_mem_cons.mpr ⟨tb_in (i := 132) (by decide +kernel) rfl, List.forall_mem_cons.mpr ⟨tb_in (i := 134) (by decide +kernel) rfl, List.forall_mem_cons.mpr ⟨tb_in (i := 136) (by decide +kernel) rfl, List.forall_mem_cons.mpr ⟨tb_in (i := 138) (by decide +kernel) rfl, List.forall_mem_cons.mpr ⟨tb_in (i := 140) (by decide +kernel) rfl, List.forall_mem_cons.mpr ⟨tb_in (i := 142) (by decide +kernel) rfl, List.forall_mem_cons.mpr ⟨tb_in (i := 144) (by decide +kernel) rfl, fun _ h => absurd h List.not_mem_nil⟩⟩⟩⟩⟩⟩⟩⟩⟩
theorem li_9 : ∀ w ∈ u_ws RX9 TX9 12, w ∈ TB := List.forall_mem_cons.mpr ⟨tb_in (i := 408) (by decide +kernel) rfl, List.forall_mem_cons.mpr ⟨tb_in (i := 410) (by decide +kernel) rfl, List.forall_mem_cons.mpr ⟨tb_in (i := 412) (by decide +kernel) rfl, List.forall_mem_cons.mpr ⟨tb_in (i := 414) (by decide +kernel) rfl, List.forall_mem_cons.mpr ⟨tb_in (i := 416) (by decide +kernel) rfl, List.forall_mem_cons.mpr ⟨tb_in (i := 418) (by decide +kernel) rfl, List.forall_mem_cons.mpr ⟨tb_in (i := 420) (by decide +kernel) rfl, List.forall_mem_cons.mpr ⟨tb_in (i := 422) (by decide +kernel) rfl, List.forall_mem_cons.mpr ⟨tb_in (i := 424) (by decide +kernel) rfl, List.forall_mem_cons.mpr ⟨tb_in (i := 426) (by decide +kernel) rfl, List.forall_mem_cons.mpr ⟨tb_in (i := 428) (by decide +kernel) rfl, List.forall_mem_cons.mpr ⟨tb_in (i := 430) (by decide +kernel) rfl, fun _ h => absurd h List.not_mem_nil⟩⟩⟩⟩⟩⟩⟩⟩⟩⟩⟩⟩
theorem li_10 : ∀ w ∈ u_ws RX10 TX10 40, w ∈ TB := List.forall_mem_cons.mpr ⟨tb_in (i := 955) (by decide +kernel) rfl, List.forall_mem_cons.mpr ⟨tb_in (i := 957) (by decide +kernel) rfl, List.forall_mem_cons.mpr ⟨tb_in (i := 959) (by decide +kernel) rfl, List.forall_mem_cons.mpr ⟨tb_in (i := 961) (by decide +kernel) rfl, List.forall_mem_cons.mpr ⟨tb_in (i := 963) (by decide +kernel) rfl, List.forall_mem_cons.mpr ⟨tb_in (i := 965) (by decide +kernel) rfl, List.forall_mem_cons.mpr ⟨tb_in (i := 967) (by decide +kernel) rfl, List.forall_mem_cons.mpr ⟨tb_in (i := 969) (by decide +kernel) rfl, List.forall_mem_cons.mpr ⟨tb_in (i := 971) (by decide +kernel) rfl, List.forall_mem_cons.mpr ⟨tb_in (i := 973) (by decide +kernel) rfl, List.forall_mem_cons.mpr ⟨tb_in (i := 975) (by decide +kernel) rfl, List.forall_mem_cons.mpr ⟨tb_in (i := 977) (by decide +kernel) rfl, List.forall_mem_cons.mpr ⟨tb_in (i := 979) (by decide +kernel) rfl, List.forall_mem_cons.mpr ⟨tb_in (i := 981) (by decide +kernel) rfl, List.forall_mem_cons.mpr ⟨tb_in (i := 983) (by decide +kernel) rfl, List.forall_mem_cons.mpr ⟨tb_in (i := 985) (by decide +kernel) rfl, List.forall_mem_cons.mpr ⟨tb_in (i := 987) (by decide +kernel) rfl, List.forall_mem_cons.mpr ⟨tb_in (i := 989) (by decide +kernel) rfl, List.forall_mem_cons.mpr ⟨tb_in (i := 991) (by decide +kernel) rfl, List.forall_mem_cons.mpr ⟨tb_in (i := 993) (by decide +kernel) rfl, List.forall_mem_cons.mpr ⟨tb_in (i := 995) (by decide +kernel) rfl, List.forall_mem_cons.mpr ⟨tb_in (i := 997) (by decide +kernel) rfl, List.forall_mem_cons.mpr ⟨tb_in (i := 999) (by decide +kernel) rfl, List.forall_mem_cons.mpr ⟨tb_in (i := 1001) (by decide +kernel) rfl, List.forall_mem_cons.mpr ⟨tb_in (i := 1003) (by decide +kernel) rfl, List.forall_mem_cons.mpr ⟨tb_in (i := 1005) (by decide +kernel) rfl, List.forall_mem_cons.mpr ⟨tb_in (i := 1007) (by decide +kernel) rfl, List.forall_mem_cons.mpr ⟨tb_in (i := 1009) (by decide +kernel) rfl, List.forall_mem_cons.mpr ⟨tb_in (i := 1011) (by decide +kernel) rfl, List.forall_mem_cons.mpr ⟨tb_in (i := 1013) (by decide +kernel) rfl, List.forall_mem_cons.mpr ⟨tb_in (i := 1015) (by decide +kernel) rfl, List.forall_mem_cons.mpr ⟨tb_in (i := 1017) (by decide +kernel) rfl, List.forall_mem_cons.mpr ⟨tb_in (i := 1019) (by decide +kernel) rfl, List.forall_mem_cons.mpr ⟨tb_in (i := 1021) (by decide +kernel) rfl, List.forall_mem_cons.mpr ⟨tb_in (i := 1023) (by decide +kernel) rfl, List.forall_mem_cons.mpr ⟨tb_in (i := 1025) (by decide +kernel) rfl, List.forall_mem_cons.mpr ⟨tb_in (i := 1027) (by decide +kernel) rfl, List.forall_mem_cons.mpr ⟨tb_in (i := 1029) (by decide +kernel) rfl, List.forall_mem_cons.mpr ⟨tb_in (i := 1031) (by decide +kernel) rfl, List.forall_mem_cons.mpr ⟨tb_in (i := 1033) (by decide +kernel) rfl, fun _ h => absurd h List.not_mem_nil⟩⟩⟩⟩⟩⟩⟩⟩⟩⟩⟩⟩⟩⟩⟩⟩⟩⟩⟩⟩⟩⟩⟩⟩⟩⟩⟩⟩⟩⟩⟩⟩⟩⟩⟩⟩⟩⟩⟩⟩
def uvCI (ci : Nat) (C : String) (T : u_T) (N : Nat) (ty : Nat → FieldType) : Prop := uvCl[ci]? = some (C, T, N) ∧ (∀ w ∈ u_ws C T N, w ∈ TB) ∧ (∀ k, k < N → parseFieldDescriptor (T k).2.2.1 = some (ty k)) ∧ (∀ a, a < N → ∀ b, b < N → a ≠ b → (T a).2.1 ≠ (T b).2.1) ∧ uvNf ci = N ∧ ci < 11
theorem ci_0 : uvCI 0 RX0 TX0 7 tyX0 := ⟨rfl, li_0, tyX0_ok, nmX0, rfl, by decide⟩
theorem ci_1 : uvCI 1 RX1 TX1 4 tyX1 := ⟨rfl, li_1, tyX1_ok, nmX1, rfl, by decide⟩
theorem ci_2 : uvCI 2 RX2 TX2 6 tyX2 := ⟨rfl, li_2, tyX2_ok, nmX2, rfl, by decide⟩
theorem ci_3 : uvCI 3 RX3 TX3 2 tyX3 := ⟨rfl, li_3, tyX3_ok, nmX3, rfl, by decide⟩
theorem ci_4 : uvCI 4 RX4 TX4 4 tyX4 := ⟨rfl, li_4, tyX4_ok, nmX4, rfl, by decide⟩
theorem ci_5 : uvCI 5 RX5 TX5 5 tyX5 := ⟨rfl, li_5, tyX5_ok, nmX5, rfl, by decide⟩
theorem ci_6 : uvCI 6 RX6 TX6 7 tyX6 := ⟨rfl, li_6, tyX6_ok, nmX6, rfl, by decide⟩
theorem ci_7 : uvCI 7 RX7 TX7 9 tyX7 := ⟨rfl, li_7, tyX7_ok, nmX7, rfl, by decide⟩
theorem ci_8 : uvCI 8 RX8 TX8 9 tyX8 := ⟨rfl, li_8, tyX8_ok, nmX8, rfl, by decide⟩
theorem ci_9 : uvCI 9 RX9 TX9 12 tyX9 := ⟨rfl, li_9, tyX9_ok, nmX9, rfl, by decide⟩
theorem ci_10 : uvCI 10 RX10 TX10 40 tyX10 := ⟨rfl, li_10, tyX10_ok, nmX10, rfl, by decide⟩

theorem uvFs_at {ad : Int → Nat} {σ : St} {ρ : Int → Int → Option Int} {o : Int} {ci k : Nat} (h : k < uvNf ci) : (uvFs ad σ ρ o ci)[k]? = some (if uvIr ci k = true then va_rf ((ρ o k).map ad) else .int (iV (σ o k))) := by
  simp [uvFs, h]
theorem uvCe_ob {G : UG} {σ : St} {ρ : Int → Int → Option Int} {o : Int} {ci : Nat} (h : uvKd o = ci) (hc : ci < 11) : uvCe G σ ρ o = .inr (ci, uvFs G.2.2.1 σ ρ o ci) := by
  subst h
  simp [uvCe, hc]
theorem uvCe_ar {G : UG} {σ : St} {ρ : Int → Int → Option Int} {o : Int} (h : uvKd o = 11) : uvCe G σ ρ o = .inl (G.2.1 0, uvLn o, .inl (fun i => iV (σ o i))) := by
  simp [uvCe, h]
theorem uvCe_rr {G : UG} {σ : St} {ρ : Int → Int → Option Int} {o : Int} {t : Nat} (h : uvKd o = 11 + t) (ht : 0 < t) : uvCe G σ ρ o = .inl (G.2.1 t, uvLn o, .inr (.inr (.inr (.inr (fun i => (ρ o i).map G.2.2.1))))) := by
  have h1 : ¬ uvKd o < 11 := by omega
  have h2 : ¬ uvKd o = 11 := by omega
  have h3 : uvKd o - 11 = t := by omega
  simp only [uvCe, if_neg h1, if_neg h2, h3]
/-! ===== heap rows ===== -/
section UVH
variable {p : Program} {l : Launch} {e : Env} {R : Room} {s : State} {m : MethodId} {args : Array Value} {below : List Frame} {meth : Method} {c : Code} {H : Heap} {locs : List Loc} {cells slots : Nat} {Q : State → Prop}
variable {cc : ByteArray} {nL : Nat} {own : String} {rt : Option FieldType} {pc : Nat} {ls : Array Slot} {rest : List Value} {G : UG} {σ σ' : St}
theorem r_gi (X : uvCx p m c cc nL own s args meth rt) (Y : uvGd G s s.heap) (V : uvWo G σ s H locs) {ci N : Nat} {C : String} {T : u_T} {ty : Nat → FieldType} (I : uvCI ci C T N ty) {o kI : Int} (ho : uvKd o = ci) (k : Nat) {index : Nat} (hkI : (k : Int) = kI) (hk : k < N) (hi : uvIr ci k = false) (hT : (T k).1 = C) (hw : Cond.fieldLink own index C (T k).2.1 (T k).2.2.1 ∈ TB) (d : decode cc pc = .ok (.getfield index, 3))
    (kk : W p l e R s m args below meth c H locs cells slots Q (F0 m (pc + 3) ls (.int (iV (σ o kI)) :: rest))) : W p l e R s m args below meth c H locs cells slots Q (F0 m pc ls (.ref (G.2.2.1 o) :: rest)) := by
  obtain ⟨i1, i2, i3, i4, i5, i6⟩ := I
  subst hkI
  have hin := uvKd_in ho (by omega)
  have he := uvWs_at (G := G) (n := uvNN) (σ := σ) (ρ := uvR0) hin
  rw [uvCe_ob ho i6] at he
  exact va_get X.1 X.2.1 X.2.2.2.2.1 i2 X.2.2.2.1 Y.1 V.1 o.toNat he i1 k hk (X.2.2.2.2.1 _ hw) (by rw [hT]; exact fun _ h => h) (v := .int (iV (σ o k))) (by rw [uvFs_at (by omega), if_neg (by rw [hi]; decide)]) d kk
theorem r_gr (X : uvCx p m c cc nL own s args meth rt) (Y : uvGd G s s.heap) (V : uvWo G σ s H locs) {ci N : Nat} {C : String} {T : u_T} {ty : Nat → FieldType} (I : uvCI ci C T N ty) {o o' kI : Int} (ho : uvKd o = ci) (k : Nat) {index : Nat} (hkI : (k : Int) = kI) (hr : uvRf o kI = o') (hk : k < N) (hi : uvIr ci k = true) (hT : (T k).1 = C) (hw : Cond.fieldLink own index C (T k).2.1 (T k).2.2.1 ∈ TB) (d : decode cc pc = .ok (.getfield index, 3))
    (kk : W p l e R s m args below meth c H locs cells slots Q (F0 m (pc + 3) ls (.ref (G.2.2.1 o') :: rest))) : W p l e R s m args below meth c H locs cells slots Q (F0 m pc ls (.ref (G.2.2.1 o) :: rest)) := by
  obtain ⟨i1, i2, i3, i4, i5, i6⟩ := I
  subst hkI
  have hin := uvKd_in ho (by omega)
  have he := uvWs_at (G := G) (n := uvNN) (σ := σ) (ρ := uvR0) hin
  rw [uvCe_ob ho i6] at he
  exact va_get X.1 X.2.1 X.2.2.2.2.1 i2 X.2.2.2.1 Y.1 V.1 o.toNat he i1 k hk (X.2.2.2.2.1 _ hw) (by rw [hT]; exact fun _ h => h) (v := .ref (G.2.2.1 o')) (by rw [uvFs_at (by omega), if_pos hi]; simp [uvR0, hr, va_rf]) d kk
theorem r_px (X : uvCx p m c cc nL own s args meth rt) (Y : uvGd G s s.heap) (V : uvWo G σ s H locs) {ci N : Nat} {C : String} {T : u_T} {ty : Nat → FieldType} (I : uvCI ci C T N ty) {o kI x : Int} (ho : uvKd o = ci) (k : Nat) {index : Nat} {t : FieldType} (hkI : (k : Int) = kI) (hk : k < N) (hi : uvIr ci k = false) (hT : (T k).1 = C) (hf : (T k).2.2.2 = false) (ht : parseFieldDescriptor (T k).2.2.1 = some t) (hn : narrow t (.int (iV x)) = .int (iV x)) (hfit : fits t (.int (iV x)) = true) (hw : Cond.fieldLink own index C (T k).2.1 (T k).2.2.1 ∈ TB) (hσ : σ' = upS σ o kI x) (d : decode cc pc = .ok (.putfield index, 3))
    (kk : ∀ (H1 : Heap) (locs1 : List Loc), uvWo G σ' s H1 locs1 → W p l e R s m args below meth c H1 locs1 cells slots Q (F0 m (pc + 3) ls rest)) : W p l e R s m args below meth c H locs cells slots Q (F0 m pc ls (.int (iV x) :: .ref (G.2.2.1 o) :: rest)) := by
  obtain ⟨i1, i2, i3, i4, i5, i6⟩ := I
  subst hkI; subst hσ
  have hin := uvKd_in ho (by omega)
  have he := uvWs_at (G := G) (n := uvNN) (σ := σ) (ρ := uvR0) hin
  rw [uvCe_ob ho i6] at he
  refine va_put (A := uvA G) X.1 X.2.1 X.2.2.2.2.1 i2 ty i3 i4 X.2.2.2.1 Y.1 V.1 (uvD Y.2.1 σ uvR0) V.2 o.toNat he i1 k hk (X.2.2.2.2.1 _ hw) (by rw [hT]; exact fun _ h => h) hf (v := .int (iV x)) ht hn hfit (by simp [uvFs]; omega) d (fun H1 locs1 hP hD hS => kk H1 locs1 ⟨?_, hS⟩)
  subst ho
  rw [uvWs_upF hin i6 hi] at hP
  exact hP
theorem r_pi (X : uvCx p m c cc nL own s args meth rt) (Y : uvGd G s s.heap) (V : uvWo G σ s H locs) {ci N : Nat} {C : String} {T : u_T} {ty : Nat → FieldType} (I : uvCI ci C T N ty) {o kI x : Int} (ho : uvKd o = ci) (k : Nat) {index : Nat} (hkI : (k : Int) = kI) (hk : k < N) (hi : uvIr ci k = false) (hT : (T k).1 = C) (hf : (T k).2.2.2 = false) (ht : parseFieldDescriptor (T k).2.2.1 = some .int) (hw : Cond.fieldLink own index C (T k).2.1 (T k).2.2.1 ∈ TB) (hσ : σ' = upS σ o kI x) (d : decode cc pc = .ok (.putfield index, 3))
    (kk : ∀ (H1 : Heap) (locs1 : List Loc), uvWo G σ' s H1 locs1 → W p l e R s m args below meth c H1 locs1 cells slots Q (F0 m (pc + 3) ls rest)) : W p l e R s m args below meth c H locs cells slots Q (F0 m pc ls (.int (iV x) :: .ref (G.2.2.1 o) :: rest)) :=
  r_px X Y V I ho k hkI hk hi hT hf ht rfl rfl hw hσ d kk
theorem nz_bool {x : Int} (h : x = 0 ∨ x = 1) : narrow .boolean (.int (iV x)) = .int (iV x) ∧ fits .boolean (.int (iV x)) = true := by
  rcases h with rfl | rfl
  · exact ⟨rfl, rfl⟩
  · exact ⟨rfl, rfl⟩
theorem r_pz (X : uvCx p m c cc nL own s args meth rt) (Y : uvGd G s s.heap) (V : uvWo G σ s H locs) {ci N : Nat} {C : String} {T : u_T} {ty : Nat → FieldType} (I : uvCI ci C T N ty) {o kI x : Int} (ho : uvKd o = ci) (k : Nat) {index : Nat} (hx : x = 0 ∨ x = 1) (hkI : (k : Int) = kI) (hk : k < N) (hi : uvIr ci k = false) (hT : (T k).1 = C) (hf : (T k).2.2.2 = false) (ht : parseFieldDescriptor (T k).2.2.1 = some .boolean) (hw : Cond.fieldLink own index C (T k).2.1 (T k).2.2.1 ∈ TB) (hσ : σ' = upS σ o kI x) (d : decode cc pc = .ok (.putfield index, 3))
    (kk : ∀ (H1 : Heap) (locs1 : List Loc), uvWo G σ' s H1 locs1 → W p l e R s m args below meth c H1 locs1 cells slots Q (F0 m (pc + 3) ls rest)) : W p l e R s m args below meth c H locs cells slots Q (F0 m pc ls (.int (iV x) :: .ref (G.2.2.1 o) :: rest)) :=
  r_px X Y V I ho k hkI hk hi hT hf ht (nz_bool hx).1 (nz_bool hx).2 hw hσ d kk
theorem r_ial (X : uvCx p m c cc nL own s args meth rt) (Y : uvGd G s s.heap) (V : uvWo G σ s H locs) {o i v : Int} {n : Nat} (ho : uvKd o = 11) (hn : uvLn o = n) (hi : 0 ≤ i ∧ i < n) (hv : v = σ o i) (d : decode cc pc = .ok (.iaload, 1))
    (kk : W p l e R s m args below meth c H locs cells slots Q (F0 m (pc + 1) ls (.int (iV v) :: rest))) : W p l e R s m args below meth c H locs cells slots Q (F0 m pc ls (.int (iV i) :: .ref (G.2.2.1 o) :: rest)) := by
  have hin := uvKd_in ho (by omega)
  have he := uvWs_at (G := G) (n := uvNN) (σ := σ) (ρ := uvR0) hin
  rw [uvCe_ar ho] at he
  have hlt := uvLn_lt o
  subst hn
  refine va_iald X.1 X.2.1 Y.1 V.1 o.toNat 0 he rfl (iV_in hi hlt) d ?_
  rw [iV_clamp hi hlt]
  have e9 : ((i.toNat : Nat) : Int) = i := by omega
  show W p l e R s m args below meth c H locs cells slots Q (F0 m (pc + 1) ls (.int (iV (σ o (i.toNat : Nat))) :: rest))
  rw [e9, ← hv]
  exact kk
theorem r_ias (X : uvCx p m c cc nL own s args meth rt) (Y : uvGd G s s.heap) (V : uvWo G σ s H locs) {o i x : Int} {n : Nat} (ho : uvKd o = 11) (hn : uvLn o = n) (hi : 0 ≤ i ∧ i < n) (hσ : σ' = upS σ o i x) (d : decode cc pc = .ok (.iastore, 1))
    (kk : ∀ (H1 : Heap) (locs1 : List Loc), uvWo G σ' s H1 locs1 → W p l e R s m args below meth c H1 locs1 cells slots Q (F0 m (pc + 1) ls rest)) : W p l e R s m args below meth c H locs cells slots Q (F0 m pc ls (.int (iV x) :: .int (iV i) :: .ref (G.2.2.1 o) :: rest)) := by
  have hin := uvKd_in ho (by omega)
  have he := uvWs_at (G := G) (n := uvNN) (σ := σ) (ρ := uvR0) hin
  rw [uvCe_ar ho] at he
  have hlt := uvLn_lt o
  subst hn; subst hσ
  refine va_iast (A := uvA G) X.1 X.2.1 Y.1 V.1 (uvD Y.2.1 σ uvR0) V.2 o.toNat 0 he rfl (iV_in hi hlt) d (fun H1 locs1 hP hD hS => kk H1 locs1 ⟨?_, hS⟩)
  rw [iV_clamp hi hlt, uvWs_upA hin ho hi.1] at hP
  exact hP
theorem r_aal (X : uvCx p m c cc nL own s args meth rt) (Y : uvGd G s s.heap) (V : uvWo G σ s H locs) {o o' i : Int} {n : Nat} (t : Nat) {C : String} (ht0 : 0 < t) (ho : uvKd o = 11 + t) (ht : (uvTy G)[t]? = some (G.2.1 t, .object C)) (hn : uvLn o = n) (hi : 0 ≤ i ∧ i < n) (hr : uvRf o i = o') (d : decode cc pc = .ok (.aaload, 1))
    (kk : W p l e R s m args below meth c H locs cells slots Q (F0 m (pc + 1) ls (.ref (G.2.2.1 o') :: rest))) : W p l e R s m args below meth c H locs cells slots Q (F0 m pc ls (.int (iV i) :: .ref (G.2.2.1 o) :: rest)) := by
  have htl : t < 3 := by
    have := (List.getElem?_eq_some_iff.mp ht).1
    simpa [uvTy] using this
  have hin := uvKd_in ho (by omega)
  have he := uvWs_at (G := G) (n := uvNN) (σ := σ) (ρ := uvR0) hin
  rw [uvCe_rr ho ht0] at he
  have hlt := uvLn_lt o
  subst hn
  refine va_aldq X.1 X.2.1 Y.1 V.1 o.toNat t he ht (iV_in hi hlt) d ?_
  rw [iV_clamp hi hlt]
  have e9 : ((i.toNat : Nat) : Int) = i := by omega
  show W p l e R s m args below meth c H locs cells slots Q (F0 m (pc + 1) ls (va_rf ((uvR0 o (i.toNat : Nat)).map G.2.2.1) :: rest))
  rw [e9]
  simp only [uvR0, hr, Option.map_some, va_rf]
  exact kk
/-! ===== ends ===== -/
def uvH (G : UG) (σ : St) : Unit → State → Prop := fun _ t => va_P G.1 uvCl (uvWs G uvNN σ uvR0) t.heap
def uvQi (G : UG) (r : Int) (σ : St) : Array Value → State → Outcome → State → Prop := va_Qi (fun r' _ => r' = iV r) (uvH G σ) (uvA G)
def uvQz (G : UG) (r : Int) (σ : St) : Array Value → State → Outcome → State → Prop := va_Qi (fun r' _ => r' = iV r ∧ (r = 0 ∨ r = 1)) (uvH G σ) (uvA G)
def uvQl (G : UG) (r : Int) (σ : St) : Array Value → State → Outcome → State → Prop := va_Ql (fun r' _ => r' = lV r) (uvH G σ) (uvA G)
def uvQv (G : UG) (σ : St) : Array Value → State → Outcome → State → Prop := va_Qv (fun _ => True) (uvH G σ) (uvA G)
def uvQr (G : UG) (ci : Nat) (o : Int) (σ : St) : Array Value → State → Outcome → State → Prop := va_Qr (fun _ => True) (fun (_ : Unit) a t => (a = G.2.2.1 o ∧ uvKd o = ci) ∧ uvH G σ () t) (uvA G)
def uvPc (G : UG) (σ : St) (av : List Value) : Array Value → State → Prop := va_Pc av (uvIn G σ)
theorem so1 {a b : Int} (h : some a = some b) : a = b := Option.some.inj h
theorem so2 {a c : Int} {b d : St} (h : some (a, b) = some (c, d)) : a = c ∧ b = d := by
  have := Option.some.inj h
  exact ⟨congrArg (·.1) this, congrArg (·.2) this⟩
theorem r_ri (X : uvCx p m c cc nL own s args meth (some .int)) (V : uvWo G σ s H locs) {v r : Int} (hv : v = r) (hσ : σ = σ') (d : decode cc pc = .ok (.ireturn, 1)) : W p l e R s m args below meth c H locs cells slots (MQ below (uvQi G r σ') args s cells slots (uvA G)) (F0 m pc ls [.int (iV v)]) := by
  subst hv; subst hσ
  exact W.iret X.1 X.2.1 X.2.2.2.2.2.1 (fun t ht _ => ⟨⟨_, (), rfl, rfl, by show va_P _ _ _ t.heap; rw [ht]; exact V.1⟩, V.2.F ht⟩) V.2.2.2 d X.2.2.2.2.2.2
theorem r_rz (X : uvCx p m c cc nL own s args meth (some .boolean)) (V : uvWo G σ s H locs) {v r : Int} (h01 : v = 0 ∨ v = 1) (hv : v = r) (hσ : σ = σ') (d : decode cc pc = .ok (.ireturn, 1)) : W p l e R s m args below meth c H locs cells slots (MQ below (uvQz G r σ') args s cells slots (uvA G)) (F0 m pc ls [.int (iV v)]) := by
  subst hv; subst hσ
  exact W.zret X.1 X.2.1 X.2.2.2.2.2.1 (nz_bool h01).1 (fun t ht _ => ⟨⟨_, (), rfl, ⟨rfl, h01⟩, by show va_P _ _ _ t.heap; rw [ht]; exact V.1⟩, V.2.F ht⟩) V.2.2.2 d X.2.2.2.2.2.2
theorem r_rl (X : uvCx p m c cc nL own s args meth (some .long)) (V : uvWo G σ s H locs) {v r : Int} (hv : v = r) (hσ : σ = σ') (d : decode cc pc = .ok (.lreturn, 1)) : W p l e R s m args below meth c H locs cells slots (MQ below (uvQl G r σ') args s cells slots (uvA G)) (F0 m pc ls [.long (lV v)]) := by
  subst hv; subst hσ
  exact W.lret X.1 X.2.1 X.2.2.2.2.2.1 (fun t ht _ => ⟨⟨_, (), rfl, rfl, by show va_P _ _ _ t.heap; rw [ht]; exact V.1⟩, V.2.F ht⟩) V.2.2.2 d X.2.2.2.2.2.2
theorem r_rv (X : uvCx p m c cc nL own s args meth none) (V : uvWo G σ s H locs) (hσ : σ = σ') (d : decode cc pc = .ok (.return_, 1)) : W p l e R s m args below meth c H locs cells slots (MQ below (uvQv G σ') args s cells slots (uvA G)) (F0 m pc ls []) := by
  subst hσ
  exact W.vret X.1 X.2.1 X.2.2.2.2.2.1 (fun t ht _ => ⟨⟨(), rfl, trivial, by show va_P _ _ _ t.heap; rw [ht]; exact V.1⟩, V.2.F ht⟩) V.2.2.2 d X.2.2.2.2.2.2
theorem r_rr {C : String} (X : uvCx p m c cc nL own s args meth (some (.object C))) (V : uvWo G σ s H locs) {ci : Nat} {v r : Int} (hk : uvKd v = ci) (hv : v = r) (hσ : σ = σ') (d : decode cc pc = .ok (.areturn, 1)) : W p l e R s m args below meth c H locs cells slots (MQ below (uvQr G ci r σ') args s cells slots (uvA G)) (F0 m pc ls [.ref (G.2.2.1 v)]) := by
  subst hv; subst hσ
  exact W.aret X.1 X.2.1 X.2.2.2.2.2.1 (Or.inl ⟨_, rfl⟩) (Or.inr ⟨_, rfl⟩) (fun t ht _ => ⟨⟨(), _, rfl, trivial, ⟨rfl, hk⟩, by show va_P _ _ _ t.heap; rw [ht]; exact V.1⟩, V.2.F ht⟩) V.2.2.2 d X.2.2.2.2.2.2
/-! ===== calls ===== -/
def uvMV (y : MethodName) (C : String) (bytes : ByteArray) (maxL : Nat) (ret : Option FieldType) (n : Nat) : Prop := (Cond.instanceMethod y ∈ TB ∧ Cond.selects C y y ∈ TB ∧ Cond.initialized C ∈ TB ∧ Cond.code y bytes maxL ret ∈ TB) ∧ y.cls = C ∧ y.cls ≠ "java/lang/invoke/MethodHandle" ∧ y.cls ≠ "java/lang/invoke/VarHandle" ∧ (parseMethodDescriptor y.desc).map (fun d => d.parameters.length) = some n
def uvMS (y : MethodName) (bytes : ByteArray) (maxL : Nat) (ret : Option FieldType) (n : Nat) : Prop := (Cond.static y ∈ TB ∧ Cond.initialized y.cls ∈ TB ∧ Cond.code y bytes maxL ret ∈ TB) ∧ y.cls ≠ "java/lang/invoke/MethodHandle" ∧ y.cls ≠ "java/lang/invoke/VarHandle" ∧ (parseMethodDescriptor y.desc).map (fun d => d.parameters.length) = some n
def uvRm (rm R : Room) (maxL : Nat) : Prop := rm.cells = 0 ∧ rm.slots = 0 ∧ rm.frames + 1 ≤ R.frames ∧ 8 + (maxL + 11) + rm.locals ≤ R.locals
theorem uvBl {G : UG} {σ : St} {av : List Value} : FrameBlind (uvPc G σ av) := fun a U g mk q => ⟨q.1, q.2.1, uvGd.same (U := U.calling g mk a) rfl q.2.2⟩
theorem uvPre (Y : uvGd G s s.heap) (V : uvWo G σ s H locs) (av : List Value) : ∀ U : State, U.heap = H → s.WarmedH U.vm → uvPc G σ av av.toArray U := fun U hU hW => ⟨rfl, by show va_P _ _ _ U.heap; rw [hU]; exact V.1, uvGd.warm (H := s.heap) hW (by rw [hU]; exact V.2.2.1) Y⟩
theorem r_runV {y : MethodName} {C : String} {bytes : ByteArray} {maxL n index : Nat} {ret : Option FieldType} {rm : Room} {As st0 : List Value} {o : Int} {Qc : Array Value → State → Outcome → State → Prop} (X : uvCx p m c cc nL own s args meth rt) (Y : uvGd G s s.heap) (V : uvWo G σ s H locs) (hM : Met l y (.code y bytes maxL ret :: TB) rm (uvPc G σ (.ref (G.2.2.1 o) :: As)) Qc 0 0 (uvA G))
    (hy : uvMV y C bytes maxL ret n) (hl : Cond.methodLink own index y ∈ TB) {ci N : Nat} {T : u_T} {ty : Nat → FieldType} (I : uvCI ci C T N ty) (ho : uvKd o = ci) (hrm : uvRm rm R maxL) (hn : As.length = n) (hst : st0 = As.reverse ++ .ref (G.2.2.1 o) :: rest) (hsz : ls.size = nL) (hW : (rest.map fun v => v.category).sum ≤ 8) (hc : cells ≤ R.cells ∧ slots ≤ R.slots) (d : decode cc pc = .ok (.invokevirtual index, 3)) :
    va_Run p l e R s m args below meth c H locs cells slots 0 0 (F0 m pc ls st0) rest (Qc (Value.ref (G.2.2.1 o) :: As).toArray) (uvA G) := by
  obtain ⟨⟨w1, w2, w3, w4⟩, hC, hd⟩ := hy
  subst hC
  have hin := uvKd_in ho (by have := I.2.2.2.2.2; omega)
  have he := uvWs_at (G := G) (n := uvNN) (σ := σ) (ρ := uvR0) hin
  rw [uvCe_ob ho I.2.2.2.2.2] at he
  have hts := X.2.2.2.2.1
  have hG : GoodIn TB (Cond.code y bytes maxL ret :: TB) := tb_gi (fun w h => (List.mem_cons.mp h).elim (fun z => z ▸ w4) id)
  exact va_runV (Ts := TB) (As := As) (rest := rest) ⟨X.1, X.2.1, X.2.2.1, X.2.2.2.1, hts⟩ hM ⟨callB_of n hts hG rfl hrm.1 hrm.2.1 (hts _ w3) (hts _ hl) hd hrm.2.2, hts _ w1, hts _ w2⟩ ⟨uvBl, va_recv Y.1 V.1 I.1 he, uvPre Y V _⟩ rfl hn hsz hst (lv_room hW) d hc
theorem r_runS {y : MethodName} {bytes : ByteArray} {maxL n index : Nat} {ret : Option FieldType} {rm : Room} {As st0 : List Value} {Qc : Array Value → State → Outcome → State → Prop} (X : uvCx p m c cc nL own s args meth rt) (Y : uvGd G s s.heap) (V : uvWo G σ s H locs) (hM : Met l y (.code y bytes maxL ret :: TB) rm (uvPc G σ As) Qc 0 0 (uvA G))
    (hy : uvMS y bytes maxL ret n) (hl : Cond.methodLink own index y ∈ TB) (hrm : uvRm rm R maxL) (hn : As.length = n) (hst : st0 = As.reverse ++ rest) (hsz : ls.size = nL) (hW : (rest.map fun v => v.category).sum ≤ 8) (hc : cells ≤ R.cells ∧ slots ≤ R.slots) (d : decode cc pc = .ok (.invokestatic index, 3)) :
    va_Run p l e R s m args below meth c H locs cells slots 0 0 (F0 m pc ls st0) rest (Qc As.toArray) (uvA G) := by
  obtain ⟨⟨w1, w3, w4⟩, hd⟩ := hy
  have hts := X.2.2.2.2.1
  have hG : GoodIn TB (Cond.code y bytes maxL ret :: TB) := tb_gi (fun w h => (List.mem_cons.mp h).elim (fun z => z ▸ w4) id)
  exact va_runS (Ts := TB) (As := As) (rest := rest) ⟨X.1, X.2.1, X.2.2.1, X.2.2.2.1, hts⟩ hM ⟨callB_of n hts hG rfl hrm.1 hrm.2.1 (hts _ w3) (hts _ hl) hd hrm.2.2, hts _ w1⟩ ⟨uvBl, uvPre Y V _⟩ rfl hn hsz hst (lv_room hW) d hc
theorem r_runSN {y : MethodName} {host : String} {bytes : ByteArray} {maxL n index : Nat} {ret : Option FieldType} {rm : Room} {As st0 : List Value} {Qc : Array Value → State → Outcome → State → Prop} (X : uvCx p m c cc nL own s args meth rt) (Y : uvGd G s s.heap) (V : uvWo G σ s H locs) (hM : Met l y (.code y bytes maxL ret :: TB) rm (uvPc G σ As) Qc 0 0 (uvA G))
    (hy : uvMS y bytes maxL ret n) (hl : va_Nw (.methodLinkNest own index y host) s) (hrm : uvRm rm R maxL) (hn : As.length = n) (hst : st0 = As.reverse ++ rest) (hsz : ls.size = nL) (hW : (rest.map fun v => v.category).sum ≤ 8) (hc : cells ≤ R.cells ∧ slots ≤ R.slots) (d : decode cc pc = .ok (.invokestatic index, 3)) :
    va_Run p l e R s m args below meth c H locs cells slots 0 0 (F0 m pc ls st0) rest (Qc As.toArray) (uvA G) := by
  obtain ⟨⟨w1, w3, w4⟩, hd⟩ := hy
  have hts := X.2.2.2.2.1
  have hG : GoodIn TB (Cond.code y bytes maxL ret :: TB) := tb_gi (fun w h => (List.mem_cons.mp h).elim (fun z => z ▸ w4) id)
  exact va_runSN (Ts := TB) (As := As) (rest := rest) ⟨X.1, X.2.1, X.2.2.1, X.2.2.2.1, hts⟩ hM ⟨va_cnB n hts hG rfl hrm.1 hrm.2.1 hl (hts _ w3) hd hrm.2.2, hts _ w1, trivial⟩ ⟨uvBl, uvPre Y V _⟩ rfl hn hsz hst (lv_room hW) d hc
theorem r_ki {st0 : List Value} {a : Array Value} {r : Int} (V : uvWo G σ s H locs) (hr : va_Run p l e R s m args below meth c H locs cells slots 0 0 (F0 m pc ls st0) rest (uvQi G r σ' a) (uvA G))
    (kk : ∀ (H1 : Heap) (locs1 : List Loc), uvWo G σ' s H1 locs1 → W p l e R s m args below meth c H1 locs1 cells slots Q (F0 m (pc + 3) ls (.int (iV r) :: rest))) : W p l e R s m args below meth c H locs cells slots Q (F0 m pc ls st0) :=
  va_calli hr V.2 (fun _ _ h => h) (fun _ h => h) (fun r' _ t H1 locs1 ht _ hp hB _ _ hS => by subst hp; exact kk H1 locs1 ⟨by have hB : va_P _ _ _ t.heap := hB; rw [ht] at hB; exact hB, hS⟩)
theorem r_kz {st0 : List Value} {a : Array Value} {r : Int} (V : uvWo G σ s H locs) (hr : va_Run p l e R s m args below meth c H locs cells slots 0 0 (F0 m pc ls st0) rest (uvQz G r σ' a) (uvA G))
    (kk : ∀ (H1 : Heap) (locs1 : List Loc), uvWo G σ' s H1 locs1 → (r = 0 ∨ r = 1) → W p l e R s m args below meth c H1 locs1 cells slots Q (F0 m (pc + 3) ls (.int (iV r) :: rest))) : W p l e R s m args below meth c H locs cells slots Q (F0 m pc ls st0) :=
  va_calli hr V.2 (fun _ _ h => h) (fun _ h => h) (fun r' _ t H1 locs1 ht _ hp hB _ _ hS => by obtain ⟨rfl, h01⟩ := hp; exact kk H1 locs1 ⟨by have hB : va_P _ _ _ t.heap := hB; rw [ht] at hB; exact hB, hS⟩ h01)
theorem r_kl {st0 : List Value} {a : Array Value} {r : Int} (V : uvWo G σ s H locs) (hr : va_Run p l e R s m args below meth c H locs cells slots 0 0 (F0 m pc ls st0) rest (uvQl G r σ' a) (uvA G))
    (kk : ∀ (H1 : Heap) (locs1 : List Loc), uvWo G σ' s H1 locs1 → W p l e R s m args below meth c H1 locs1 cells slots Q (F0 m (pc + 3) ls (.long (lV r) :: rest))) : W p l e R s m args below meth c H locs cells slots Q (F0 m pc ls st0) :=
  va_calll hr V.2 (fun _ _ h => h) (fun _ h => h) (fun r' _ t H1 locs1 ht _ hp hB _ _ hS => by subst hp; exact kk H1 locs1 ⟨by have hB : va_P _ _ _ t.heap := hB; rw [ht] at hB; exact hB, hS⟩)
theorem r_kv {st0 : List Value} {a : Array Value} (V : uvWo G σ s H locs) (hr : va_Run p l e R s m args below meth c H locs cells slots 0 0 (F0 m pc ls st0) rest (uvQv G σ' a) (uvA G))
    (kk : ∀ (H1 : Heap) (locs1 : List Loc), uvWo G σ' s H1 locs1 → W p l e R s m args below meth c H1 locs1 cells slots Q (F0 m (pc + 3) ls rest)) : W p l e R s m args below meth c H locs cells slots Q (F0 m pc ls st0) :=
  va_callv hr V.2 (fun _ _ h => h) (fun _ h => h) (fun _ t H1 locs1 ht _ _ hB _ _ hS => kk H1 locs1 ⟨by have hB : va_P _ _ _ t.heap := hB; rw [ht] at hB; exact hB, hS⟩)
theorem r_kr {st0 : List Value} {a : Array Value} {ci : Nat} {r : Int} (V : uvWo G σ s H locs) (hr : va_Run p l e R s m args below meth c H locs cells slots 0 0 (F0 m pc ls st0) rest (uvQr G ci r σ' a) (uvA G))
    (kk : ∀ (H1 : Heap) (locs1 : List Loc), uvWo G σ' s H1 locs1 → uvKd r = ci → W p l e R s m args below meth c H1 locs1 cells slots Q (F0 m (pc + 3) ls (.ref (G.2.2.1 r) :: rest))) : W p l e R s m args below meth c H locs cells slots Q (F0 m pc ls st0) :=
  va_callr hr V.2 (fun _ _ h => h) (fun _ h => h) (fun _ a t H1 locs1 ht _ _ hB _ _ hS => by obtain ⟨⟨rfl, hk⟩, hB⟩ := hB; exact kk H1 locs1 ⟨by have hB : va_P _ _ _ t.heap := hB; rw [ht] at hB; exact hB, hS⟩ hk)
end UVH
/-- a contract out of its body's walk -/
theorem r_met {l : Launch} {G : UG} {σ : St} {y : MethodName} {own : String} {cc : ByteArray} {maxL : Nat} {ret : Option FieldType} {rm : Room} {av : List Value} {Qc : Array Value → State → Outcome → State → Prop} (hpl : plainName y.cls = true) (hown : y.cls = own) (hsl : (lg_sl av).length ≤ maxL) {lv : List (Nat × Value)} (hlv : lv_args 0 av = lv)
    (body : ∀ (p : Program) (e : Env) (s : State) (m : MethodId) (below : List Frame) (meth : Method) (c : Code) (ls : Array Slot), uvCx p m c cc maxL own s av.toArray meth ret → uvGd G s s.heap → uvWo G σ s s.heap [] → lv_has ls maxL lv → W p l e rm s m av.toArray below meth c s.heap [] 0 0 (MQ below Qc av.toArray s 0 0 (uvA G)) (F0 m 0 ls [])) :
    Met l y (.code y cc maxL ret :: TB) rm (uvPc G σ av) Qc 0 0 (uvA G) := by
  refine Met.ofW (cc := cc) (maxL := maxL) (ret := ret) hpl rfl ?_
  intro p e s m args below meth c s₁ B hml hv
  obtain ⟨rfl, hP, hY⟩ := hv
  have hts := atoms_spec (ws := .code y cc maxL ret :: TB) B.pre
  have hown' : s.vm.findClass own = some m.cls := by rw [← hown]; exact findClass_of_methodNamed B.named
  rw [lg_entry_eq]
  exact body p e s m below meth c _ ⟨B.exec, B.bytes, hml, hown', fun w h => hts w (List.mem_cons_of_mem _ h), B.returns, B.notSynchronized⟩ hY ⟨hP, va_S.rf⟩ (hlv ▸ lv_entry av hsl)
end
section
theorem wd_0 : (Cond.initialized "UnitVoicesLaw") ∈ TB := tb_in (i := 62) (by decide +kernel) rfl
theorem wd_1 : (Cond.initialized "UnitVoices") ∈ TB := tb_in (i := 63) (by decide +kernel) rfl
theorem wd_2 : (Cond.initialized "UnitVoices$Units") ∈ TB := tb_in (i := 64) (by decide +kernel) rfl
theorem wd_3 : (Cond.initialized "UnitVoices$Row") ∈ TB := tb_in (i := 65) (by decide +kernel) rfl
theorem wd_4 : (Cond.initialized "UnitVoices$Tree") ∈ TB := tb_in (i := 66) (by decide +kernel) rfl
theorem wd_5 : (Cond.initialized "UnitVoices$Text") ∈ TB := tb_in (i := 67) (by decide +kernel) rfl
theorem wd_6 : (Cond.initialized "UnitVoices$Chooser") ∈ TB := tb_in (i := 68) (by decide +kernel) rfl
theorem wd_7 : (Cond.initialized "UnitVoices$Choice") ∈ TB := tb_in (i := 69) (by decide +kernel) rfl
theorem wd_8 : (Cond.initialized "UnitVoices$Prices") ∈ TB := tb_in (i := 70) (by decide +kernel) rfl
theorem wd_9 : (Cond.initialized "UnitVoices$Chains") ∈ TB := tb_in (i := 71) (by decide +kernel) rfl
theorem wd_10 : (Cond.initialized "UnitVoices$Tally") ∈ TB := tb_in (i := 72) (by decide +kernel) rfl
theorem wd_11 : (Cond.initialized "java/lang/Math") ∈ TB := tb_in (i := 73) (by decide +kernel) rfl
theorem wd_12 : (Cond.initialized "UnitVoicesModel") ∈ TB := tb_in (i := 74) (by decide +kernel) rfl
theorem wd_13 : (Cond.initialized "java/lang/String") ∈ TB := tb_in (i := 75) (by decide +kernel) rfl
theorem wd_14 : (Cond.initialized "java/lang/StringLatin1") ∈ TB := tb_in (i := 76) (by decide +kernel) rfl
theorem wd_15 : (Cond.initialized "jdk/internal/util/Preconditions") ∈ TB := tb_in (i := 77) (by decide +kernel) rfl
theorem wd_16 : (Cond.initialized "java/lang/StringUTF16") ∈ TB := tb_in (i := 78) (by decide +kernel) rfl
theorem wd_17 : (Cond.initialized "java/lang/Long") ∈ TB := tb_in (i := 79) (by decide +kernel) rfl
theorem wd_18 : (Cond.classLink "UnitVoicesLaw" (7 : Nat) "UnitVoices") ∈ TB := tb_in (i := 80) (by decide +kernel) rfl
theorem wd_19 : (Cond.instantiable "UnitVoices" (12 : Nat)) ∈ TB := tb_in (i := 81) (by decide +kernel) rfl
theorem wd_20 : (Cond.methodLink "UnitVoicesLaw" (9 : Nat) ({ cls := "UnitVoices", name := "<init>", desc := "()V" } : Jvm.MethodName)) ∈ TB := tb_in (i := 82) (by decide +kernel) rfl
theorem wd_23 : (Cond.methodLink "UnitVoices" (1 : Nat) ({ cls := "java/lang/Object", name := "<init>", desc := "()V" } : Jvm.MethodName)) ∈ TB := tb_in (i := 85) (by decide +kernel) rfl
theorem wd_26 : (Cond.classLink "UnitVoices" (7 : Nat) "UnitVoices$Units") ∈ TB := tb_in (i := 88) (by decide +kernel) rfl
theorem wd_27 : (Cond.instantiable "UnitVoices$Units" (9 : Nat)) ∈ TB := tb_in (i := 89) (by decide +kernel) rfl
theorem wd_28 : (Cond.methodLink "UnitVoices" (9 : Nat) ({ cls := "UnitVoices$Units", name := "<init>", desc := "()V" } : Jvm.MethodName)) ∈ TB := tb_in (i := 90) (by decide +kernel) rfl
theorem wd_31 : (Cond.methodLink "UnitVoices$Units" (3 : Nat) ({ cls := "java/lang/Object", name := "<init>", desc := "()V" } : Jvm.MethodName)) ∈ TB := tb_in (i := 93) (by decide +kernel) rfl
theorem wd_32 : (Cond.methodLink "UnitVoices$Units" (36 : Nat) ({ cls := "UnitVoices$Units", name := "removeAll", desc := "()V" } : Jvm.MethodName)) ∈ TB := tb_in (i := 94) (by decide +kernel) rfl
theorem wd_36 : (Cond.fieldLink "UnitVoices$Units" (9 : Nat) "UnitVoices$Units" "sound" "[I") ∈ TB := tb_in (i := 98) (by decide +kernel) rfl
theorem wd_37 : (Cond.fieldLink "UnitVoices$Prices" (55 : Nat) "UnitVoices$Units" "sound" "[I") ∈ TB := tb_in (i := 99) (by decide +kernel) rfl
theorem wd_38 : (Cond.fieldLink "UnitVoices" (120 : Nat) "UnitVoices$Units" "sound" "[I") ∈ TB := tb_in (i := 100) (by decide +kernel) rfl
theorem wd_39 : (Cond.fieldLink "UnitVoices$Chooser" (116 : Nat) "UnitVoices$Units" "sound" "[I") ∈ TB := tb_in (i := 101) (by decide +kernel) rfl
theorem wd_40 : (Cond.fieldLink "UnitVoices$Units" (15 : Nat) "UnitVoices$Units" "left" "[I") ∈ TB := tb_in (i := 102) (by decide +kernel) rfl
theorem wd_41 : (Cond.fieldLink "UnitVoices$Chooser" (37 : Nat) "UnitVoices$Units" "left" "[I") ∈ TB := tb_in (i := 103) (by decide +kernel) rfl
theorem wd_42 : (Cond.fieldLink "UnitVoices$Prices" (40 : Nat) "UnitVoices$Units" "left" "[I") ∈ TB := tb_in (i := 104) (by decide +kernel) rfl
theorem wd_43 : (Cond.fieldLink "UnitVoices" (123 : Nat) "UnitVoices$Units" "left" "[I") ∈ TB := tb_in (i := 105) (by decide +kernel) rfl
theorem wd_44 : (Cond.fieldLink "UnitVoices$Units" (18 : Nat) "UnitVoices$Units" "right" "[I") ∈ TB := tb_in (i := 106) (by decide +kernel) rfl
theorem wd_45 : (Cond.fieldLink "UnitVoices$Chooser" (42 : Nat) "UnitVoices$Units" "right" "[I") ∈ TB := tb_in (i := 107) (by decide +kernel) rfl
theorem wd_46 : (Cond.fieldLink "UnitVoices$Prices" (46 : Nat) "UnitVoices$Units" "right" "[I") ∈ TB := tb_in (i := 108) (by decide +kernel) rfl
theorem wd_47 : (Cond.fieldLink "UnitVoices" (126 : Nat) "UnitVoices$Units" "right" "[I") ∈ TB := tb_in (i := 109) (by decide +kernel) rfl
theorem wd_48 : (Cond.fieldLink "UnitVoices$Units" (21 : Nat) "UnitVoices$Units" "pitch" "[I") ∈ TB := tb_in (i := 110) (by decide +kernel) rfl
theorem wd_49 : (Cond.fieldLink "UnitVoices$Prices" (17 : Nat) "UnitVoices$Units" "pitch" "[I") ∈ TB := tb_in (i := 111) (by decide +kernel) rfl
theorem wd_50 : (Cond.fieldLink "UnitVoices$Chooser" (45 : Nat) "UnitVoices$Units" "pitch" "[I") ∈ TB := tb_in (i := 112) (by decide +kernel) rfl
theorem wd_51 : (Cond.fieldLink "UnitVoices" (129 : Nat) "UnitVoices$Units" "pitch" "[I") ∈ TB := tb_in (i := 113) (by decide +kernel) rfl
theorem wd_52 : (Cond.fieldLink "UnitVoices$Units" (24 : Nat) "UnitVoices$Units" "length" "[I") ∈ TB := tb_in (i := 114) (by decide +kernel) rfl
theorem wd_53 : (Cond.fieldLink "UnitVoices$Prices" (32 : Nat) "UnitVoices$Units" "length" "[I") ∈ TB := tb_in (i := 115) (by decide +kernel) rfl
theorem wd_54 : (Cond.fieldLink "UnitVoices$Chooser" (48 : Nat) "UnitVoices$Units" "length" "[I") ∈ TB := tb_in (i := 116) (by decide +kernel) rfl
theorem wd_55 : (Cond.fieldLink "UnitVoices" (132 : Nat) "UnitVoices$Units" "length" "[I") ∈ TB := tb_in (i := 117) (by decide +kernel) rfl
theorem wd_56 : (Cond.fieldLink "UnitVoices$Units" (27 : Nat) "UnitVoices$Units" "take" "[I") ∈ TB := tb_in (i := 118) (by decide +kernel) rfl
theorem wd_57 : (Cond.fieldLink "UnitVoices" (135 : Nat) "UnitVoices$Units" "take" "[I") ∈ TB := tb_in (i := 119) (by decide +kernel) rfl
theorem wd_58 : (Cond.fieldLink "UnitVoices$Units" (30 : Nat) "UnitVoices$Units" "follower" "[I") ∈ TB := tb_in (i := 120) (by decide +kernel) rfl
theorem wd_59 : (Cond.fieldLink "UnitVoices$Prices" (52 : Nat) "UnitVoices$Units" "follower" "[I") ∈ TB := tb_in (i := 121) (by decide +kernel) rfl
theorem wd_60 : (Cond.fieldLink "UnitVoices" (138 : Nat) "UnitVoices$Units" "follower" "[I") ∈ TB := tb_in (i := 122) (by decide +kernel) rfl
theorem wd_61 : (Cond.fieldLink "UnitVoices$Chains" (98 : Nat) "UnitVoices$Units" "follower" "[I") ∈ TB := tb_in (i := 123) (by decide +kernel) rfl
theorem wd_62 : (Cond.fieldLink "UnitVoices$Units" (33 : Nat) "UnitVoices$Units" "newest" "[I") ∈ TB := tb_in (i := 124) (by decide +kernel) rfl
theorem wd_63 : (Cond.fieldLink "UnitVoices$Units" (39 : Nat) "UnitVoices$Units" "count" "I") ∈ TB := tb_in (i := 125) (by decide +kernel) rfl
theorem wd_64 : (Cond.fieldLink "UnitVoices" (83 : Nat) "UnitVoices$Units" "count" "I") ∈ TB := tb_in (i := 126) (by decide +kernel) rfl
theorem wd_65 : (Cond.fieldLink "UnitVoices$Chooser" (83 : Nat) "UnitVoices$Units" "count" "I") ∈ TB := tb_in (i := 127) (by decide +kernel) rfl
theorem wd_85 : (Cond.arrayClass Jvm.ClassFile.FieldType.int) ∈ TB := tb_in (i := 147) (by decide +kernel) rfl
theorem wd_86 : (Cond.classLink "UnitVoices" (16 : Nat) "UnitVoices$Row") ∈ TB := tb_in (i := 148) (by decide +kernel) rfl
theorem wd_87 : (Cond.instantiable "UnitVoices$Row" (4 : Nat)) ∈ TB := tb_in (i := 149) (by decide +kernel) rfl
theorem wd_91 : (Cond.methodLink "UnitVoices$Row" (3 : Nat) ({ cls := "java/lang/Object", name := "<init>", desc := "()V" } : Jvm.MethodName)) ∈ TB := tb_in (i := 153) (by decide +kernel) rfl
theorem wd_92 : (Cond.fieldLink "UnitVoices$Row" (9 : Nat) "UnitVoices$Row" "sound" "[I") ∈ TB := tb_in (i := 154) (by decide +kernel) rfl
theorem wd_93 : (Cond.fieldLink "UnitVoices$Chooser" (93 : Nat) "UnitVoices$Row" "sound" "[I") ∈ TB := tb_in (i := 155) (by decide +kernel) rfl
theorem wd_94 : (Cond.fieldLink "UnitVoices" (174 : Nat) "UnitVoices$Row" "sound" "[I") ∈ TB := tb_in (i := 156) (by decide +kernel) rfl
theorem wd_95 : (Cond.fieldLink "UnitVoices$Row" (15 : Nat) "UnitVoices$Row" "pitch" "[I") ∈ TB := tb_in (i := 157) (by decide +kernel) rfl
theorem wd_96 : (Cond.fieldLink "UnitVoices$Prices" (23 : Nat) "UnitVoices$Row" "pitch" "[I") ∈ TB := tb_in (i := 158) (by decide +kernel) rfl
theorem wd_97 : (Cond.fieldLink "UnitVoices$Chooser" (66 : Nat) "UnitVoices$Row" "pitch" "[I") ∈ TB := tb_in (i := 159) (by decide +kernel) rfl
theorem wd_98 : (Cond.fieldLink "UnitVoices" (175 : Nat) "UnitVoices$Row" "pitch" "[I") ∈ TB := tb_in (i := 160) (by decide +kernel) rfl
theorem wd_99 : (Cond.fieldLink "UnitVoices$Row" (18 : Nat) "UnitVoices$Row" "length" "[I") ∈ TB := tb_in (i := 161) (by decide +kernel) rfl
theorem wd_100 : (Cond.fieldLink "UnitVoices$Prices" (35 : Nat) "UnitVoices$Row" "length" "[I") ∈ TB := tb_in (i := 162) (by decide +kernel) rfl
theorem wd_101 : (Cond.fieldLink "UnitVoices$Chooser" (67 : Nat) "UnitVoices$Row" "length" "[I") ∈ TB := tb_in (i := 163) (by decide +kernel) rfl
theorem wd_102 : (Cond.fieldLink "UnitVoices" (176 : Nat) "UnitVoices$Row" "length" "[I") ∈ TB := tb_in (i := 164) (by decide +kernel) rfl
theorem wd_103 : (Cond.fieldLink "UnitVoices$Row" (21 : Nat) "UnitVoices$Row" "count" "I") ∈ TB := tb_in (i := 165) (by decide +kernel) rfl
theorem wd_104 : (Cond.fieldLink "UnitVoices$Chains" (49 : Nat) "UnitVoices$Row" "count" "I") ∈ TB := tb_in (i := 166) (by decide +kernel) rfl
theorem wd_105 : (Cond.fieldLink "UnitVoices$Text" (39 : Nat) "UnitVoices$Row" "count" "I") ∈ TB := tb_in (i := 167) (by decide +kernel) rfl
theorem wd_106 : (Cond.fieldLink "UnitVoices$Chooser" (71 : Nat) "UnitVoices$Row" "count" "I") ∈ TB := tb_in (i := 168) (by decide +kernel) rfl
theorem wd_107 : (Cond.fieldLink "UnitVoices" (163 : Nat) "UnitVoices$Row" "count" "I") ∈ TB := tb_in (i := 169) (by decide +kernel) rfl
theorem wd_117 : (Cond.classLink "UnitVoices" (23 : Nat) "UnitVoices$Tree") ∈ TB := tb_in (i := 179) (by decide +kernel) rfl
theorem wd_118 : (Cond.instantiable "UnitVoices$Tree" (9 : Nat)) ∈ TB := tb_in (i := 180) (by decide +kernel) rfl
theorem wd_119 : (Cond.methodLink "UnitVoices" (25 : Nat) ({ cls := "UnitVoices$Tree", name := "<init>", desc := "()V" } : Jvm.MethodName)) ∈ TB := tb_in (i := 181) (by decide +kernel) rfl
theorem wd_122 : (Cond.methodLink "UnitVoices$Tree" (3 : Nat) ({ cls := "java/lang/Object", name := "<init>", desc := "()V" } : Jvm.MethodName)) ∈ TB := tb_in (i := 184) (by decide +kernel) rfl
theorem wd_123 : (Cond.methodLink "UnitVoices$Tree" (30 : Nat) ({ cls := "UnitVoices$Tree", name := "addLeaf", desc := "(I)I" } : Jvm.MethodName)) ∈ TB := tb_in (i := 185) (by decide +kernel) rfl
theorem wd_127 : (Cond.methodLink "UnitVoices$Tree" (44 : Nat) ({ cls := "UnitVoices$Tree", name := "addNode", desc := "(III)I" } : Jvm.MethodName)) ∈ TB := tb_in (i := 189) (by decide +kernel) rfl
theorem wd_131 : (Cond.fieldLink "UnitVoices$Tree" (9 : Nat) "UnitVoices$Tree" "letter" "[I") ∈ TB := tb_in (i := 193) (by decide +kernel) rfl
theorem wd_132 : (Cond.fieldLink "UnitVoices$Tree" (15 : Nat) "UnitVoices$Tree" "figure" "[I") ∈ TB := tb_in (i := 194) (by decide +kernel) rfl
theorem wd_133 : (Cond.fieldLink "UnitVoices$Tree" (18 : Nat) "UnitVoices$Tree" "above" "[I") ∈ TB := tb_in (i := 195) (by decide +kernel) rfl
theorem wd_134 : (Cond.fieldLink "UnitVoices$Tree" (21 : Nat) "UnitVoices$Tree" "yes" "[I") ∈ TB := tb_in (i := 196) (by decide +kernel) rfl
theorem wd_135 : (Cond.fieldLink "UnitVoices$Tree" (24 : Nat) "UnitVoices$Tree" "no" "[I") ∈ TB := tb_in (i := 197) (by decide +kernel) rfl
theorem wd_136 : (Cond.fieldLink "UnitVoices$Tree" (27 : Nat) "UnitVoices$Tree" "number" "[I") ∈ TB := tb_in (i := 198) (by decide +kernel) rfl
theorem wd_137 : (Cond.fieldLink "UnitVoices$Tree" (34 : Nat) "UnitVoices$Tree" "nodes" "I") ∈ TB := tb_in (i := 199) (by decide +kernel) rfl
theorem wd_138 : (Cond.fieldLink "UnitVoices$Tree" (38 : Nat) "UnitVoices$Tree" "leaves" "I") ∈ TB := tb_in (i := 200) (by decide +kernel) rfl
theorem wd_139 : (Cond.fieldLink "UnitVoices" (168 : Nat) "UnitVoices$Tree" "leaves" "I") ∈ TB := tb_in (i := 201) (by decide +kernel) rfl
theorem wd_140 : (Cond.fieldLink "UnitVoices$Tree" (41 : Nat) "UnitVoices$Tree" "height" "I") ∈ TB := tb_in (i := 202) (by decide +kernel) rfl
theorem wd_141 : (Cond.fieldLink "UnitVoices" (184 : Nat) "UnitVoices$Tree" "height" "I") ∈ TB := tb_in (i := 203) (by decide +kernel) rfl
theorem wd_161 : (Cond.classLink "UnitVoices" (30 : Nat) "UnitVoices$Text") ∈ TB := tb_in (i := 223) (by decide +kernel) rfl
theorem wd_162 : (Cond.instantiable "UnitVoices$Text" (7 : Nat)) ∈ TB := tb_in (i := 224) (by decide +kernel) rfl
theorem wd_166 : (Cond.methodLink "UnitVoices$Text" (3 : Nat) ({ cls := "java/lang/Object", name := "<init>", desc := "()V" } : Jvm.MethodName)) ∈ TB := tb_in (i := 228) (by decide +kernel) rfl
theorem wd_167 : (Cond.classLink "UnitVoices$Text" (15 : Nat) "UnitVoices$Row") ∈ TB := tb_in (i := 229) (by decide +kernel) rfl
theorem wd_169 : (Cond.classLink "UnitVoices$Text" (22 : Nat) "UnitVoices$Tree") ∈ TB := tb_in (i := 231) (by decide +kernel) rfl
theorem wd_170 : (Cond.methodLink "UnitVoices$Text" (24 : Nat) ({ cls := "UnitVoices$Tree", name := "<init>", desc := "()V" } : Jvm.MethodName)) ∈ TB := tb_in (i := 232) (by decide +kernel) rfl
theorem wd_171 : (Cond.fieldLink "UnitVoices$Text" (9 : Nat) "UnitVoices$Text" "bytes" "[I") ∈ TB := tb_in (i := 233) (by decide +kernel) rfl
theorem wd_172 : (Cond.fieldLink "UnitVoices$Text" (18 : Nat) "UnitVoices$Text" "row" "LUnitVoices$Row;") ∈ TB := tb_in (i := 234) (by decide +kernel) rfl
theorem wd_173 : (Cond.fieldLink "UnitVoices" (158 : Nat) "UnitVoices$Text" "row" "LUnitVoices$Row;") ∈ TB := tb_in (i := 235) (by decide +kernel) rfl
theorem wd_174 : (Cond.fieldLink "UnitVoices$Text" (25 : Nat) "UnitVoices$Text" "tree" "LUnitVoices$Tree;") ∈ TB := tb_in (i := 236) (by decide +kernel) rfl
theorem wd_175 : (Cond.fieldLink "UnitVoices" (164 : Nat) "UnitVoices$Text" "tree" "LUnitVoices$Tree;") ∈ TB := tb_in (i := 237) (by decide +kernel) rfl
theorem wd_176 : (Cond.fieldLink "UnitVoices$Text" (29 : Nat) "UnitVoices$Text" "count" "I") ∈ TB := tb_in (i := 238) (by decide +kernel) rfl
theorem wd_177 : (Cond.fieldLink "UnitVoices" (147 : Nat) "UnitVoices$Text" "count" "I") ∈ TB := tb_in (i := 239) (by decide +kernel) rfl
theorem wd_178 : (Cond.fieldLink "UnitVoices$Text" (47 : Nat) "UnitVoices$Text" "tellsRow" "Z") ∈ TB := tb_in (i := 240) (by decide +kernel) rfl
theorem wd_179 : (Cond.fieldLink "UnitVoices" (154 : Nat) "UnitVoices$Text" "tellsRow" "Z") ∈ TB := tb_in (i := 241) (by decide +kernel) rfl
theorem wd_180 : (Cond.fieldLink "UnitVoices$Text" (33 : Nat) "UnitVoices$Text" "place" "I") ∈ TB := tb_in (i := 242) (by decide +kernel) rfl
theorem wd_181 : (Cond.fieldLink "UnitVoices$Text" (36 : Nat) "UnitVoices$Text" "fault" "I") ∈ TB := tb_in (i := 243) (by decide +kernel) rfl
theorem wd_197 : (Cond.classLink "UnitVoices" (41 : Nat) "UnitVoices$Chooser") ∈ TB := tb_in (i := 259) (by decide +kernel) rfl
theorem wd_198 : (Cond.instantiable "UnitVoices$Chooser" (6 : Nat)) ∈ TB := tb_in (i := 260) (by decide +kernel) rfl
theorem wd_199 : (Cond.methodLink "UnitVoices" (43 : Nat) ({ cls := "UnitVoices$Chooser", name := "<init>", desc := "(LUnitVoices$Units;LUnitVoices$Row;LUnitVoices$Tree;[I)V" } : Jvm.MethodName)) ∈ TB := tb_in (i := 261) (by decide +kernel) rfl
theorem wd_202 : (Cond.methodLink "UnitVoices$Chooser" (3 : Nat) ({ cls := "java/lang/Object", name := "<init>", desc := "()V" } : Jvm.MethodName)) ∈ TB := tb_in (i := 264) (by decide +kernel) rfl
theorem wd_203 : (Cond.classLink "UnitVoices$Chooser" (15 : Nat) "UnitVoices$Choice") ∈ TB := tb_in (i := 265) (by decide +kernel) rfl
theorem wd_205 : (Cond.instantiable "UnitVoices$Choice" (4 : Nat)) ∈ TB := tb_in (i := 267) (by decide +kernel) rfl
theorem wd_209 : (Cond.methodLink "UnitVoices$Choice" (3 : Nat) ({ cls := "java/lang/Object", name := "<init>", desc := "()V" } : Jvm.MethodName)) ∈ TB := tb_in (i := 271) (by decide +kernel) rfl
theorem wd_210 : (Cond.fieldLink "UnitVoices$Choice" (9 : Nat) "UnitVoices$Choice" "unit" "[I") ∈ TB := tb_in (i := 272) (by decide +kernel) rfl
theorem wd_211 : (Cond.fieldLink "UnitVoices$Chains" (69 : Nat) "UnitVoices$Choice" "unit" "[I") ∈ TB := tb_in (i := 273) (by decide +kernel) rfl
theorem wd_212 : (Cond.fieldLink "UnitVoices" (219 : Nat) "UnitVoices$Choice" "unit" "[I") ∈ TB := tb_in (i := 274) (by decide +kernel) rfl
theorem wd_213 : (Cond.fieldLink "UnitVoices$Choice" (15 : Nat) "UnitVoices$Choice" "count" "I") ∈ TB := tb_in (i := 275) (by decide +kernel) rfl
theorem wd_214 : (Cond.fieldLink "UnitVoices$Chains" (55 : Nat) "UnitVoices$Choice" "count" "I") ∈ TB := tb_in (i := 276) (by decide +kernel) rfl
theorem wd_215 : (Cond.fieldLink "UnitVoices$Chooser" (106 : Nat) "UnitVoices$Choice" "count" "I") ∈ TB := tb_in (i := 277) (by decide +kernel) rfl
theorem wd_216 : (Cond.fieldLink "UnitVoices" (218 : Nat) "UnitVoices$Choice" "count" "I") ∈ TB := tb_in (i := 278) (by decide +kernel) rfl
theorem wd_217 : (Cond.fieldLink "UnitVoices$Choice" (19 : Nat) "UnitVoices$Choice" "steps" "I") ∈ TB := tb_in (i := 279) (by decide +kernel) rfl
theorem wd_218 : (Cond.fieldLink "UnitVoices$Chooser" (99 : Nat) "UnitVoices$Choice" "steps" "I") ∈ TB := tb_in (i := 280) (by decide +kernel) rfl
theorem wd_219 : (Cond.fieldLink "UnitVoices" (222 : Nat) "UnitVoices$Choice" "steps" "I") ∈ TB := tb_in (i := 281) (by decide +kernel) rfl
theorem wd_220 : (Cond.fieldLink "UnitVoices$Choice" (22 : Nat) "UnitVoices$Choice" "tried" "I") ∈ TB := tb_in (i := 282) (by decide +kernel) rfl
theorem wd_221 : (Cond.fieldLink "UnitVoices$Chooser" (96 : Nat) "UnitVoices$Choice" "tried" "I") ∈ TB := tb_in (i := 283) (by decide +kernel) rfl
theorem wd_222 : (Cond.fieldLink "UnitVoices" (225 : Nat) "UnitVoices$Choice" "tried" "I") ∈ TB := tb_in (i := 284) (by decide +kernel) rfl
theorem wd_232 : (Cond.fieldLink "UnitVoices$Chooser" (21 : Nat) "UnitVoices$Chooser" "units" "LUnitVoices$Units;") ∈ TB := tb_in (i := 294) (by decide +kernel) rfl
theorem wd_233 : (Cond.fieldLink "UnitVoices$Chooser" (25 : Nat) "UnitVoices$Chooser" "row" "LUnitVoices$Row;") ∈ TB := tb_in (i := 295) (by decide +kernel) rfl
theorem wd_234 : (Cond.fieldLink "UnitVoices$Chooser" (29 : Nat) "UnitVoices$Chooser" "tree" "LUnitVoices$Tree;") ∈ TB := tb_in (i := 296) (by decide +kernel) rfl
theorem wd_235 : (Cond.fieldLink "UnitVoices$Chooser" (33 : Nat) "UnitVoices$Chooser" "others" "[I") ∈ TB := tb_in (i := 297) (by decide +kernel) rfl
theorem wd_236 : (Cond.fieldLink "UnitVoices$Chooser" (9 : Nat) "UnitVoices$Chooser" "leafOf" "[I") ∈ TB := tb_in (i := 298) (by decide +kernel) rfl
theorem wd_237 : (Cond.fieldLink "UnitVoices$Chooser" (17 : Nat) "UnitVoices$Chooser" "choices" "[LUnitVoices$Choice;") ∈ TB := tb_in (i := 299) (by decide +kernel) rfl
theorem wd_238 : (Cond.fieldLink "UnitVoices$Chains" (35 : Nat) "UnitVoices$Chooser" "choices" "[LUnitVoices$Choice;") ∈ TB := tb_in (i := 300) (by decide +kernel) rfl
theorem wd_252 : (Cond.classLink "UnitVoices" (50 : Nat) "UnitVoices$Prices") ∈ TB := tb_in (i := 314) (by decide +kernel) rfl
theorem wd_253 : (Cond.instantiable "UnitVoices$Prices" (2 : Nat)) ∈ TB := tb_in (i := 315) (by decide +kernel) rfl
theorem wd_254 : (Cond.methodLink "UnitVoices" (52 : Nat) ({ cls := "UnitVoices$Prices", name := "<init>", desc := "(LUnitVoices$Units;LUnitVoices$Row;)V" } : Jvm.MethodName)) ∈ TB := tb_in (i := 316) (by decide +kernel) rfl
theorem wd_257 : (Cond.methodLink "UnitVoices$Prices" (1 : Nat) ({ cls := "java/lang/Object", name := "<init>", desc := "()V" } : Jvm.MethodName)) ∈ TB := tb_in (i := 319) (by decide +kernel) rfl
theorem wd_258 : (Cond.fieldLink "UnitVoices$Prices" (7 : Nat) "UnitVoices$Prices" "units" "LUnitVoices$Units;") ∈ TB := tb_in (i := 320) (by decide +kernel) rfl
theorem wd_259 : (Cond.fieldLink "UnitVoices$Prices" (13 : Nat) "UnitVoices$Prices" "row" "LUnitVoices$Row;") ∈ TB := tb_in (i := 321) (by decide +kernel) rfl
theorem wd_265 : (Cond.classLink "UnitVoices" (59 : Nat) "UnitVoices$Chains") ∈ TB := tb_in (i := 327) (by decide +kernel) rfl
theorem wd_266 : (Cond.instantiable "UnitVoices$Chains" (7 : Nat)) ∈ TB := tb_in (i := 328) (by decide +kernel) rfl
theorem wd_267 : (Cond.methodLink "UnitVoices" (61 : Nat) ({ cls := "UnitVoices$Chains", name := "<init>", desc := "(LUnitVoices$Row;LUnitVoices$Chooser;LUnitVoices$Prices;)V" } : Jvm.MethodName)) ∈ TB := tb_in (i := 329) (by decide +kernel) rfl
theorem wd_270 : (Cond.methodLink "UnitVoices$Chains" (3 : Nat) ({ cls := "java/lang/Object", name := "<init>", desc := "()V" } : Jvm.MethodName)) ∈ TB := tb_in (i := 332) (by decide +kernel) rfl
theorem wd_271 : (Cond.classLink "UnitVoices$Chains" (9 : Nat) "UnitVoices$Tally") ∈ TB := tb_in (i := 333) (by decide +kernel) rfl
theorem wd_273 : (Cond.instantiable "UnitVoices$Tally" (5 : Nat)) ∈ TB := tb_in (i := 335) (by decide +kernel) rfl
theorem wd_274 : (Cond.methodLink "UnitVoices$Chains" (17 : Nat) ({ cls := "UnitVoices$Tally", name := "<init>", desc := "(I)V" } : Jvm.MethodName)) ∈ TB := tb_in (i := 336) (by decide +kernel) rfl
theorem wd_277 : (Cond.methodLink "UnitVoices$Tally" (3 : Nat) ({ cls := "java/lang/Object", name := "<init>", desc := "()V" } : Jvm.MethodName)) ∈ TB := tb_in (i := 339) (by decide +kernel) rfl
theorem wd_278 : (Cond.methodLink "UnitVoices$Tally" (9 : Nat) ({ cls := "java/lang/Math", name := "max", desc := "(II)I" } : Jvm.MethodName)) ∈ TB := tb_in (i := 340) (by decide +kernel) rfl
theorem wd_281 : (Cond.fieldLink "UnitVoices$Tally" (15 : Nat) "UnitVoices$Tally" "least" "[I") ∈ TB := tb_in (i := 343) (by decide +kernel) rfl
theorem wd_282 : (Cond.fieldLink "UnitVoices$Chains" (85 : Nat) "UnitVoices$Tally" "least" "[I") ∈ TB := tb_in (i := 344) (by decide +kernel) rfl
theorem wd_283 : (Cond.fieldLink "UnitVoices$Tally" (21 : Nat) "UnitVoices$Tally" "second" "[I") ∈ TB := tb_in (i := 345) (by decide +kernel) rfl
theorem wd_284 : (Cond.fieldLink "UnitVoices$Chains" (88 : Nat) "UnitVoices$Tally" "second" "[I") ∈ TB := tb_in (i := 346) (by decide +kernel) rfl
theorem wd_285 : (Cond.fieldLink "UnitVoices$Tally" (24 : Nat) "UnitVoices$Tally" "most" "[I") ∈ TB := tb_in (i := 347) (by decide +kernel) rfl
theorem wd_286 : (Cond.fieldLink "UnitVoices$Chains" (92 : Nat) "UnitVoices$Tally" "most" "[I") ∈ TB := tb_in (i := 348) (by decide +kernel) rfl
theorem wd_287 : (Cond.fieldLink "UnitVoices$Tally" (27 : Nat) "UnitVoices$Tally" "ways" "[I") ∈ TB := tb_in (i := 349) (by decide +kernel) rfl
theorem wd_288 : (Cond.fieldLink "UnitVoices$Chains" (95 : Nat) "UnitVoices$Tally" "ways" "[I") ∈ TB := tb_in (i := 350) (by decide +kernel) rfl
theorem wd_289 : (Cond.fieldLink "UnitVoices$Tally" (30 : Nat) "UnitVoices$Tally" "onward" "[I") ∈ TB := tb_in (i := 351) (by decide +kernel) rfl
theorem wd_290 : (Cond.fieldLink "UnitVoices$Chains" (82 : Nat) "UnitVoices$Tally" "onward" "[I") ∈ TB := tb_in (i := 352) (by decide +kernel) rfl
theorem wd_302 : (Cond.methodLink "UnitVoices$Chains" (46 : Nat) ({ cls := "UnitVoices$Tally", name := "end", desc := "(I)V" } : Jvm.MethodName)) ∈ TB := tb_in (i := 364) (by decide +kernel) rfl
theorem wd_306 : (Cond.methodLink "UnitVoices$Tally" (34 : Nat) ({ cls := "UnitVoices$Tally", name := "begin", desc := "(I)V" } : Jvm.MethodName)) ∈ TB := tb_in (i := 368) (by decide +kernel) rfl
theorem wd_310 : (Cond.constant "UnitVoices$Tally" (33 : Nat) (1000000 : Int32)) ∈ TB := tb_in (i := 372) (by decide +kernel) rfl
theorem wd_311 : (Cond.fieldLink "UnitVoices$Chains" (31 : Nat) "UnitVoices$Chains" "row" "LUnitVoices$Row;") ∈ TB := tb_in (i := 373) (by decide +kernel) rfl
theorem wd_312 : (Cond.fieldLink "UnitVoices$Chains" (41 : Nat) "UnitVoices$Chains" "choices" "[LUnitVoices$Choice;") ∈ TB := tb_in (i := 374) (by decide +kernel) rfl
theorem wd_313 : (Cond.fieldLink "UnitVoices$Chains" (42 : Nat) "UnitVoices$Chains" "prices" "LUnitVoices$Prices;") ∈ TB := tb_in (i := 375) (by decide +kernel) rfl
theorem wd_314 : (Cond.fieldLink "UnitVoices$Chains" (11 : Nat) "UnitVoices$Chains" "tallies" "[LUnitVoices$Tally;") ∈ TB := tb_in (i := 376) (by decide +kernel) rfl
theorem wd_315 : (Cond.fieldLink "UnitVoices$Chains" (20 : Nat) "UnitVoices$Chains" "whole" "LUnitVoices$Tally;") ∈ TB := tb_in (i := 377) (by decide +kernel) rfl
theorem wd_316 : (Cond.fieldLink "UnitVoices$Chains" (24 : Nat) "UnitVoices$Chains" "ending" "LUnitVoices$Tally;") ∈ TB := tb_in (i := 378) (by decide +kernel) rfl
theorem wd_317 : (Cond.fieldLink "UnitVoices$Chains" (27 : Nat) "UnitVoices$Chains" "path" "[I") ∈ TB := tb_in (i := 379) (by decide +kernel) rfl
theorem wd_318 : (Cond.fieldLink "UnitVoices" (242 : Nat) "UnitVoices$Chains" "path" "[I") ∈ TB := tb_in (i := 380) (by decide +kernel) rfl
theorem wd_334 : (Cond.fieldLink "UnitVoices" (10 : Nat) "UnitVoices" "units" "LUnitVoices$Units;") ∈ TB := tb_in (i := 396) (by decide +kernel) rfl
theorem wd_335 : (Cond.fieldLink "UnitVoices" (19 : Nat) "UnitVoices" "row" "LUnitVoices$Row;") ∈ TB := tb_in (i := 397) (by decide +kernel) rfl
theorem wd_336 : (Cond.fieldLink "UnitVoices" (26 : Nat) "UnitVoices" "tree" "LUnitVoices$Tree;") ∈ TB := tb_in (i := 398) (by decide +kernel) rfl
theorem wd_337 : (Cond.fieldLink "UnitVoices" (33 : Nat) "UnitVoices" "text" "LUnitVoices$Text;") ∈ TB := tb_in (i := 399) (by decide +kernel) rfl
theorem wd_338 : (Cond.fieldLink "UnitVoices" (37 : Nat) "UnitVoices" "others" "[I") ∈ TB := tb_in (i := 400) (by decide +kernel) rfl
theorem wd_339 : (Cond.fieldLink "UnitVoices" (46 : Nat) "UnitVoices" "chooser" "LUnitVoices$Chooser;") ∈ TB := tb_in (i := 401) (by decide +kernel) rfl
theorem wd_340 : (Cond.fieldLink "UnitVoices" (55 : Nat) "UnitVoices" "prices" "LUnitVoices$Prices;") ∈ TB := tb_in (i := 402) (by decide +kernel) rfl
theorem wd_341 : (Cond.fieldLink "UnitVoices" (64 : Nat) "UnitVoices" "chains" "LUnitVoices$Chains;") ∈ TB := tb_in (i := 403) (by decide +kernel) rfl
theorem wd_342 : (Cond.fieldLink "UnitVoices" (144 : Nat) "UnitVoices" "kind" "I") ∈ TB := tb_in (i := 404) (by decide +kernel) rfl
theorem wd_343 : (Cond.fieldLink "UnitVoices" (202 : Nat) "UnitVoices" "bads" "I") ∈ TB := tb_in (i := 405) (by decide +kernel) rfl
theorem wd_344 : (Cond.fieldLink "UnitVoices" (274 : Nat) "UnitVoices" "noes" "I") ∈ TB := tb_in (i := 406) (by decide +kernel) rfl
theorem wd_345 : (Cond.fieldLink "UnitVoices" (277 : Nat) "UnitVoices" "fulls" "I") ∈ TB := tb_in (i := 407) (by decide +kernel) rfl
theorem wd_371 : (Cond.methodLink "UnitVoicesLaw" (13 : Nat) ({ cls := "UnitVoices", name := "unit", desc := "(IIIIII)I" } : Jvm.MethodName)) ∈ TB := tb_in (i := 433) (by decide +kernel) rfl
theorem wd_375 : (Cond.methodLink "UnitVoices" (68 : Nat) ({ cls := "UnitVoices", name := "isSound", desc := "(I)Z" } : Jvm.MethodName)) ∈ TB := tb_in (i := 437) (by decide +kernel) rfl
theorem wd_378 : (Cond.methodLink "UnitVoices" (72 : Nat) ({ cls := "UnitVoices", name := "within", desc := "(III)Z" } : Jvm.MethodName)) ∈ TB := tb_in (i := 440) (by decide +kernel) rfl
theorem wd_381 : (Cond.methodLink "UnitVoices" (76 : Nat) ({ cls := "UnitVoices", name := "isTake", desc := "(I)Z" } : Jvm.MethodName)) ∈ TB := tb_in (i := 443) (by decide +kernel) rfl
theorem wd_384 : (Cond.methodLink "UnitVoices" (79 : Nat) ({ cls := "UnitVoices", name := "bad", desc := "()I" } : Jvm.MethodName)) ∈ TB := tb_in (i := 446) (by decide +kernel) rfl
theorem wd_388 : (Cond.methodLink "UnitVoices" (87 : Nat) ({ cls := "UnitVoices", name := "full", desc := "()I" } : Jvm.MethodName)) ∈ TB := tb_in (i := 450) (by decide +kernel) rfl
theorem wd_392 : (Cond.methodLink "UnitVoices" (90 : Nat) ({ cls := "UnitVoices$Units", name := "add", desc := "(IIIIII)I" } : Jvm.MethodName)) ∈ TB := tb_in (i := 454) (by decide +kernel) rfl
theorem wd_397 : (Cond.methodLink "UnitVoicesLaw" (18 : Nat) ({ cls := "UnitVoices", name := "records", desc := "(III)I" } : Jvm.MethodName)) ∈ TB := tb_in (i := 459) (by decide +kernel) rfl
theorem wd_401 : (Cond.constant "UnitVoices" (94 : Nat) (999999 : Int32)) ∈ TB := tb_in (i := 463) (by decide +kernel) rfl
theorem wd_402 : (Cond.constantLong "UnitVoices" (95 : Nat) (1103515245 : Int64)) ∈ TB := tb_in (i := 464) (by decide +kernel) rfl
theorem wd_403 : (Cond.constantLong "UnitVoices" (97 : Nat) (12345 : Int64)) ∈ TB := tb_in (i := 465) (by decide +kernel) rfl
theorem wd_404 : (Cond.constantLong "UnitVoices" (99 : Nat) (2147483648 : Int64)) ∈ TB := tb_in (i := 466) (by decide +kernel) rfl
theorem wd_405 : (Cond.constantLong "UnitVoices" (101 : Nat) (65536 : Int64)) ∈ TB := tb_in (i := 467) (by decide +kernel) rfl
theorem wd_406 : (Cond.constantLong "UnitVoices" (103 : Nat) (6 : Int64)) ∈ TB := tb_in (i := 468) (by decide +kernel) rfl
theorem wd_407 : (Cond.constantLong "UnitVoices" (105 : Nat) (4096 : Int64)) ∈ TB := tb_in (i := 469) (by decide +kernel) rfl
theorem wd_408 : (Cond.constantLong "UnitVoices" (107 : Nat) (10 : Int64)) ∈ TB := tb_in (i := 470) (by decide +kernel) rfl
theorem wd_409 : (Cond.constantLong "UnitVoices" (109 : Nat) (1024 : Int64)) ∈ TB := tb_in (i := 471) (by decide +kernel) rfl
theorem wd_410 : (Cond.constantLong "UnitVoices" (111 : Nat) (9 : Int64)) ∈ TB := tb_in (i := 472) (by decide +kernel) rfl
theorem wd_411 : (Cond.methodLink "UnitVoices" (113 : Nat) ({ cls := "UnitVoices$Units", name := "putRight", desc := "(II)V" } : Jvm.MethodName)) ∈ TB := tb_in (i := 473) (by decide +kernel) rfl
theorem wd_415 : (Cond.methodLink "UnitVoicesLaw" (23 : Nat) ({ cls := "UnitVoices", name := "of", desc := "(II)I" } : Jvm.MethodName)) ∈ TB := tb_in (i := 477) (by decide +kernel) rfl
theorem wd_419 : (Cond.methodLink "UnitVoices" (117 : Nat) ({ cls := "UnitVoices", name := "isUnit", desc := "(I)Z" } : Jvm.MethodName)) ∈ TB := tb_in (i := 481) (by decide +kernel) rfl
theorem wd_423 : (Cond.methodLink "UnitVoicesLaw" (28 : Nat) ({ cls := "UnitVoices", name := "empties", desc := "()I" } : Jvm.MethodName)) ∈ TB := tb_in (i := 485) (by decide +kernel) rfl
theorem wd_427 : (Cond.methodLink "UnitVoices" (141 : Nat) ({ cls := "UnitVoices$Units", name := "removeAll", desc := "()V" } : Jvm.MethodName)) ∈ TB := tb_in (i := 489) (by decide +kernel) rfl
theorem wd_428 : (Cond.methodLink "UnitVoicesLaw" (33 : Nat) ({ cls := "UnitVoices", name := "other", desc := "(II)I" } : Jvm.MethodName)) ∈ TB := tb_in (i := 490) (by decide +kernel) rfl
theorem wd_432 : (Cond.methodLink "UnitVoicesLaw" (37 : Nat) ({ cls := "UnitVoices", name := "fitter", desc := "(I)I" } : Jvm.MethodName)) ∈ TB := tb_in (i := 494) (by decide +kernel) rfl
theorem wd_436 : (Cond.methodLink "UnitVoicesLaw" (42 : Nat) ({ cls := "UnitVoices", name := "type", desc := "(I)I" } : Jvm.MethodName)) ∈ TB := tb_in (i := 498) (by decide +kernel) rfl
theorem wd_440 : (Cond.methodLink "UnitVoices" (148 : Nat) ({ cls := "UnitVoices$Text", name := "add", desc := "(I)V" } : Jvm.MethodName)) ∈ TB := tb_in (i := 502) (by decide +kernel) rfl
theorem wd_444 : (Cond.methodLink "UnitVoicesLaw" (46 : Nat) ({ cls := "UnitVoices", name := "clear", desc := "()I" } : Jvm.MethodName)) ∈ TB := tb_in (i := 506) (by decide +kernel) rfl
theorem wd_448 : (Cond.methodLink "UnitVoicesLaw" (50 : Nat) ({ cls := "UnitVoices", name := "reads", desc := "()I" } : Jvm.MethodName)) ∈ TB := tb_in (i := 510) (by decide +kernel) rfl
theorem wd_452 : (Cond.methodLink "UnitVoices" (151 : Nat) ({ cls := "UnitVoices$Text", name := "read", desc := "()I" } : Jvm.MethodName)) ∈ TB := tb_in (i := 514) (by decide +kernel) rfl
theorem wd_456 : (Cond.methodLink "UnitVoices$Text" (40 : Nat) ({ cls := "UnitVoices$Tree", name := "removeAll", desc := "()V" } : Jvm.MethodName)) ∈ TB := tb_in (i := 518) (by decide +kernel) rfl
theorem wd_460 : (Cond.methodLink "UnitVoices$Text" (43 : Nat) ({ cls := "UnitVoices$Text", name := "look", desc := "()I" } : Jvm.MethodName)) ∈ TB := tb_in (i := 522) (by decide +kernel) rfl
theorem wd_464 : (Cond.methodLink "UnitVoices$Text" (51 : Nat) ({ cls := "UnitVoices$Text", name := "readRow", desc := "()V" } : Jvm.MethodName)) ∈ TB := tb_in (i := 526) (by decide +kernel) rfl
theorem wd_469 : (Cond.methodLink "UnitVoices$Text" (64 : Nat) ({ cls := "UnitVoices$Text", name := "readWord", desc := "(Ljava/lang/String;)Z" } : Jvm.MethodName)) ∈ TB := tb_in (i := 531) (by decide +kernel) rfl
theorem wd_473 : (Cond.methodLink "UnitVoices$Text" (109 : Nat) ({ cls := "java/lang/String", name := "length", desc := "()I" } : Jvm.MethodName)) ∈ TB := tb_in (i := 535) (by decide +kernel) rfl
theorem wd_477 : (Cond.methodLink "java/lang/String" (335 : Nat) ({ cls := "java/lang/String", name := "coder", desc := "()B" } : Jvm.MethodName)) ∈ TB := tb_in (i := 539) (by decide +kernel) rfl
theorem wd_481 : (Cond.fieldLink "java/lang/String" (38 : Nat) "java/lang/String" "COMPACT_STRINGS" "Z") ∈ TB := tb_in (i := 543) (by decide +kernel) rfl
theorem wd_483 : (Cond.methodLink "UnitVoices$Text" (57 : Nat) ({ cls := "UnitVoices$Text", name := "fail", desc := "()I" } : Jvm.MethodName)) ∈ TB := tb_in (i := 545) (by decide +kernel) rfl
theorem wd_487 : (Cond.methodLink "UnitVoices$Text" (114 : Nat) ({ cls := "java/lang/String", name := "charAt", desc := "(I)C" } : Jvm.MethodName)) ∈ TB := tb_in (i := 549) (by decide +kernel) rfl
theorem wd_491 : (Cond.methodLink "java/lang/String" (492 : Nat) ({ cls := "java/lang/String", name := "isLatin1", desc := "()Z" } : Jvm.MethodName)) ∈ TB := tb_in (i := 553) (by decide +kernel) rfl
theorem wd_495 : (Cond.methodLink "java/lang/String" (495 : Nat) ({ cls := "java/lang/StringLatin1", name := "charAt", desc := "([BI)C" } : Jvm.MethodName)) ∈ TB := tb_in (i := 557) (by decide +kernel) rfl
theorem wd_498 : (Cond.methodLink "java/lang/StringLatin1" (9 : Nat) ({ cls := "java/lang/String", name := "checkIndex", desc := "(II)V" } : Jvm.MethodName)) ∈ TB := tb_in (i := 560) (by decide +kernel) rfl
theorem wd_501 : (Cond.fieldLink "java/lang/String" (1053 : Nat) "jdk/internal/util/Preconditions" "SIOOBE_FORMATTER" "Ljava/util/function/BiFunction;") ∈ TB := tb_in (i := 563) (by decide +kernel) rfl
theorem wd_503 : (Cond.methodLink "java/lang/String" (1059 : Nat) ({ cls := "jdk/internal/util/Preconditions", name := "checkIndex", desc := "(IILjava/util/function/BiFunction;)I" } : Jvm.MethodName)) ∈ TB := tb_in (i := 565) (by decide +kernel) rfl
theorem wd_506 : (Cond.methodLink "java/lang/String" (498 : Nat) ({ cls := "java/lang/StringUTF16", name := "charAt", desc := "([BI)C" } : Jvm.MethodName)) ∈ TB := tb_in (i := 568) (by decide +kernel) rfl
theorem wd_509 : (Cond.methodLink "java/lang/StringUTF16" (67 : Nat) ({ cls := "java/lang/StringUTF16", name := "checkIndex", desc := "(I[B)V" } : Jvm.MethodName)) ∈ TB := tb_in (i := 571) (by decide +kernel) rfl
theorem wd_512 : (Cond.methodLink "java/lang/StringUTF16" (48 : Nat) ({ cls := "java/lang/StringUTF16", name := "length", desc := "([B)I" } : Jvm.MethodName)) ∈ TB := tb_in (i := 574) (by decide +kernel) rfl
theorem wd_515 : (Cond.methodLink "java/lang/StringUTF16" (414 : Nat) ({ cls := "java/lang/String", name := "checkIndex", desc := "(II)V" } : Jvm.MethodName)) ∈ TB := tb_in (i := 577) (by decide +kernel) rfl
theorem wd_516 : (Cond.methodLink "java/lang/StringUTF16" (71 : Nat) ({ cls := "java/lang/StringUTF16", name := "getChar", desc := "([BI)C" } : Jvm.MethodName)) ∈ TB := tb_in (i := 578) (by decide +kernel) rfl
theorem wd_519 : (Cond.fieldLink "java/lang/StringUTF16" (44 : Nat) "java/lang/StringUTF16" "$assertionsDisabled" "Z") ∈ TB := tb_in (i := 581) (by decide +kernel) rfl
theorem wd_521 : (Cond.fieldLink "java/lang/StringUTF16" (59 : Nat) "java/lang/StringUTF16" "HI_BYTE_SHIFT" "I") ∈ TB := tb_in (i := 583) (by decide +kernel) rfl
theorem wd_523 : (Cond.fieldLink "java/lang/StringUTF16" (63 : Nat) "java/lang/StringUTF16" "LO_BYTE_SHIFT" "I") ∈ TB := tb_in (i := 585) (by decide +kernel) rfl
theorem wd_526 : (Cond.methodLink "UnitVoices$Text" (72 : Nat) ({ cls := "UnitVoices$Text", name := "readTarget", desc := "(I)V" } : Jvm.MethodName)) ∈ TB := tb_in (i := 588) (by decide +kernel) rfl
theorem wd_530 : (Cond.methodLink "UnitVoices$Text" (76 : Nat) ({ cls := "UnitVoices$Text", name := "readFigure", desc := "(II)I" } : Jvm.MethodName)) ∈ TB := tb_in (i := 592) (by decide +kernel) rfl
theorem wd_534 : (Cond.methodLink "UnitVoices$Text" (80 : Nat) ({ cls := "UnitVoices$Row", name := "add", desc := "(III)V" } : Jvm.MethodName)) ∈ TB := tb_in (i := 596) (by decide +kernel) rfl
theorem wd_538 : (Cond.methodLink "UnitVoices$Text" (54 : Nat) ({ cls := "UnitVoices$Text", name := "readTree", desc := "()V" } : Jvm.MethodName)) ∈ TB := tb_in (i := 600) (by decide +kernel) rfl
theorem wd_543 : (Cond.methodLink "UnitVoices$Text" (85 : Nat) ({ cls := "UnitVoices$Text", name := "readNode", desc := "(II)I" } : Jvm.MethodName)) ∈ TB := tb_in (i := 605) (by decide +kernel) rfl
theorem wd_547 : (Cond.methodLink "UnitVoices$Text" (88 : Nat) ({ cls := "UnitVoices$Tree", name := "addLeaf", desc := "(I)I" } : Jvm.MethodName)) ∈ TB := tb_in (i := 609) (by decide +kernel) rfl
theorem wd_548 : (Cond.methodLink "UnitVoices$Text" (92 : Nat) ({ cls := "UnitVoices$Text", name := "isQuestion", desc := "(I)Z" } : Jvm.MethodName)) ∈ TB := tb_in (i := 610) (by decide +kernel) rfl
theorem wd_551 : (Cond.methodLink "UnitVoices$Text" (96 : Nat) ({ cls := "UnitVoices$Tree", name := "addQuestion", desc := "(IIII)I" } : Jvm.MethodName)) ∈ TB := tb_in (i := 613) (by decide +kernel) rfl
theorem wd_555 : (Cond.methodLink "UnitVoices$Tree" (48 : Nat) ({ cls := "java/lang/Math", name := "max", desc := "(II)I" } : Jvm.MethodName)) ∈ TB := tb_in (i := 617) (by decide +kernel) rfl
theorem wd_556 : (Cond.methodLink "UnitVoices$Text" (100 : Nat) ({ cls := "UnitVoices$Text", name := "readBranches", desc := "(II)I" } : Jvm.MethodName)) ∈ TB := tb_in (i := 618) (by decide +kernel) rfl
theorem wd_560 : (Cond.methodLink "UnitVoices$Text" (103 : Nat) ({ cls := "UnitVoices$Text", name := "readSign", desc := "(I)Z" } : Jvm.MethodName)) ∈ TB := tb_in (i := 622) (by decide +kernel) rfl
theorem wd_564 : (Cond.methodLink "UnitVoices$Text" (106 : Nat) ({ cls := "UnitVoices$Tree", name := "putBranches", desc := "(III)V" } : Jvm.MethodName)) ∈ TB := tb_in (i := 626) (by decide +kernel) rfl
theorem wd_568 : (Cond.methodLink "UnitVoices$Tree" (54 : Nat) ({ cls := "UnitVoices$Tree", name := "isNode", desc := "(I)Z" } : Jvm.MethodName)) ∈ TB := tb_in (i := 630) (by decide +kernel) rfl
theorem wd_572 : (Cond.methodLink "UnitVoices$Text" (60 : Nat) ({ cls := "UnitVoices$Text", name := "readEnd", desc := "()V" } : Jvm.MethodName)) ∈ TB := tb_in (i := 634) (by decide +kernel) rfl
theorem wd_576 : (Cond.methodLink "UnitVoices" (159 : Nat) ({ cls := "UnitVoices$Row", name := "become", desc := "(LUnitVoices$Row;)V" } : Jvm.MethodName)) ∈ TB := tb_in (i := 638) (by decide +kernel) rfl
theorem wd_580 : (Cond.methodLink "UnitVoices$Row" (25 : Nat) ({ cls := "UnitVoices$Row", name := "add", desc := "(III)V" } : Jvm.MethodName)) ∈ TB := tb_in (i := 642) (by decide +kernel) rfl
theorem wd_581 : (Cond.methodLink "UnitVoices" (165 : Nat) ({ cls := "UnitVoices$Tree", name := "become", desc := "(LUnitVoices$Tree;)V" } : Jvm.MethodName)) ∈ TB := tb_in (i := 643) (by decide +kernel) rfl
theorem wd_585 : (Cond.arrayClass Jvm.ClassFile.FieldType.byte) ∈ TB := tb_in (i := 647) (by decide +kernel) rfl
theorem wd_586 : (Cond.methodLink "UnitVoicesLaw" (54 : Nat) ({ cls := "UnitVoices", name := "target", desc := "(II)I" } : Jvm.MethodName)) ∈ TB := tb_in (i := 648) (by decide +kernel) rfl
theorem wd_590 : (Cond.methodLink "UnitVoices" (171 : Nat) ({ cls := "UnitVoices", name := "isTarget", desc := "(I)Z" } : Jvm.MethodName)) ∈ TB := tb_in (i := 652) (by decide +kernel) rfl
theorem wd_594 : (Cond.methodLink "UnitVoices" (177 : Nat) ({ cls := "UnitVoices$Row", name := "leftOf", desc := "(I)I" } : Jvm.MethodName)) ∈ TB := tb_in (i := 656) (by decide +kernel) rfl
theorem wd_598 : (Cond.methodLink "UnitVoices" (181 : Nat) ({ cls := "UnitVoices$Row", name := "rightOf", desc := "(I)I" } : Jvm.MethodName)) ∈ TB := tb_in (i := 660) (by decide +kernel) rfl
theorem wd_602 : (Cond.methodLink "UnitVoicesLaw" (58 : Nat) ({ cls := "UnitVoices", name := "tree", desc := "(I)I" } : Jvm.MethodName)) ∈ TB := tb_in (i := 664) (by decide +kernel) rfl
theorem wd_606 : (Cond.methodLink "UnitVoices" (187 : Nat) ({ cls := "UnitVoices", name := "emptyLeaves", desc := "()I" } : Jvm.MethodName)) ∈ TB := tb_in (i := 668) (by decide +kernel) rfl
theorem wd_610 : (Cond.methodLink "UnitVoices" (190 : Nat) ({ cls := "UnitVoices$Chooser", name := "leafOfUnit", desc := "(I)I" } : Jvm.MethodName)) ∈ TB := tb_in (i := 672) (by decide +kernel) rfl
theorem wd_614 : (Cond.methodLink "UnitVoices$Chooser" (51 : Nat) ({ cls := "UnitVoices$Tree", name := "leafFor", desc := "(IIII)I" } : Jvm.MethodName)) ∈ TB := tb_in (i := 676) (by decide +kernel) rfl
theorem wd_618 : (Cond.methodLink "UnitVoices$Tree" (58 : Nat) ({ cls := "UnitVoices$Tree", name := "saysYes", desc := "(IIIII)Z" } : Jvm.MethodName)) ∈ TB := tb_in (i := 680) (by decide +kernel) rfl
theorem wd_622 : (Cond.methodLink "UnitVoices" (193 : Nat) ({ cls := "UnitVoices$Tree", name := "numberOf", desc := "(I)I" } : Jvm.MethodName)) ∈ TB := tb_in (i := 684) (by decide +kernel) rfl
theorem wd_626 : (Cond.methodLink "UnitVoices" (298 : Nat) ({ cls := "java/lang/Long", name := "bitCount", desc := "(J)I" } : Jvm.MethodName)) ∈ TB := tb_in (i := 688) (by decide +kernel) rfl
theorem wd_629 : (Cond.constantLong "java/lang/Long" (314 : Nat) (6148914691236517205 : Int64)) ∈ TB := tb_in (i := 691) (by decide +kernel) rfl
theorem wd_630 : (Cond.constantLong "java/lang/Long" (316 : Nat) (3689348814741910323 : Int64)) ∈ TB := tb_in (i := 692) (by decide +kernel) rfl
theorem wd_631 : (Cond.constantLong "java/lang/Long" (318 : Nat) (1085102592571150095 : Int64)) ∈ TB := tb_in (i := 693) (by decide +kernel) rfl
theorem wd_632 : (Cond.methodLink "UnitVoicesLaw" (62 : Nat) ({ cls := "UnitVoices", name := "leaf", desc := "(II)I" } : Jvm.MethodName)) ∈ TB := tb_in (i := 694) (by decide +kernel) rfl
theorem wd_636 : (Cond.methodLink "UnitVoices" (196 : Nat) ({ cls := "UnitVoices$Chooser", name := "leafOfTarget", desc := "(I)I" } : Jvm.MethodName)) ∈ TB := tb_in (i := 698) (by decide +kernel) rfl
theorem wd_640 : (Cond.methodLink "UnitVoices$Chooser" (57 : Nat) ({ cls := "UnitVoices$Row", name := "leftOf", desc := "(I)I" } : Jvm.MethodName)) ∈ TB := tb_in (i := 702) (by decide +kernel) rfl
theorem wd_641 : (Cond.methodLink "UnitVoices$Chooser" (63 : Nat) ({ cls := "UnitVoices$Row", name := "rightOf", desc := "(I)I" } : Jvm.MethodName)) ∈ TB := tb_in (i := 703) (by decide +kernel) rfl
theorem wd_642 : (Cond.methodLink "UnitVoicesLaw" (66 : Nat) ({ cls := "UnitVoices", name := "choice", desc := "(II)I" } : Jvm.MethodName)) ∈ TB := tb_in (i := 704) (by decide +kernel) rfl
theorem wd_646 : (Cond.methodLink "UnitVoices" (199 : Nat) ({ cls := "UnitVoices", name := "isPlace", desc := "(I)Z" } : Jvm.MethodName)) ∈ TB := tb_in (i := 708) (by decide +kernel) rfl
theorem wd_650 : (Cond.methodLink "UnitVoices" (205 : Nat) ({ cls := "UnitVoices", name := "no", desc := "()I" } : Jvm.MethodName)) ∈ TB := tb_in (i := 712) (by decide +kernel) rfl
theorem wd_654 : (Cond.methodLink "UnitVoices" (208 : Nat) ({ cls := "UnitVoices$Chooser", name := "choose", desc := "(II)LUnitVoices$Choice;" } : Jvm.MethodName)) ∈ TB := tb_in (i := 716) (by decide +kernel) rfl
theorem wd_658 : (Cond.methodLink "UnitVoices$Chooser" (68 : Nat) ({ cls := "UnitVoices$Chooser", name := "findLeaves", desc := "()V" } : Jvm.MethodName)) ∈ TB := tb_in (i := 720) (by decide +kernel) rfl
theorem wd_662 : (Cond.methodLink "UnitVoices$Chooser" (84 : Nat) ({ cls := "UnitVoices$Chooser", name := "leafOfUnit", desc := "(I)I" } : Jvm.MethodName)) ∈ TB := tb_in (i := 724) (by decide +kernel) rfl
theorem wd_663 : (Cond.methodLink "UnitVoices$Chooser" (75 : Nat) ({ cls := "UnitVoices$Chooser", name := "chooseFor", desc := "(II)V" } : Jvm.MethodName)) ∈ TB := tb_in (i := 725) (by decide +kernel) rfl
theorem wd_667 : (Cond.methodLink "UnitVoices$Chooser" (87 : Nat) ({ cls := "UnitVoices$Choice", name := "begin", desc := "()V" } : Jvm.MethodName)) ∈ TB := tb_in (i := 729) (by decide +kernel) rfl
theorem wd_671 : (Cond.methodLink "UnitVoices$Chooser" (90 : Nat) ({ cls := "UnitVoices$Chooser", name := "leafOfTarget", desc := "(I)I" } : Jvm.MethodName)) ∈ TB := tb_in (i := 733) (by decide +kernel) rfl
theorem wd_672 : (Cond.methodLink "UnitVoices$Chooser" (102 : Nat) ({ cls := "UnitVoices$Chooser", name := "climb", desc := "(LUnitVoices$Choice;III)V" } : Jvm.MethodName)) ∈ TB := tb_in (i := 734) (by decide +kernel) rfl
theorem wd_676 : (Cond.methodLink "UnitVoices$Chooser" (110 : Nat) ({ cls := "UnitVoices$Chooser", name := "gather", desc := "(LUnitVoices$Choice;III)V" } : Jvm.MethodName)) ∈ TB := tb_in (i := 738) (by decide +kernel) rfl
theorem wd_680 : (Cond.methodLink "UnitVoices$Chooser" (117 : Nat) ({ cls := "UnitVoices$Tree", name := "liesUnder", desc := "(II)Z" } : Jvm.MethodName)) ∈ TB := tb_in (i := 742) (by decide +kernel) rfl
theorem wd_684 : (Cond.methodLink "UnitVoices$Tree" (62 : Nat) ({ cls := "UnitVoices$Tree", name := "nodeAbove", desc := "(I)I" } : Jvm.MethodName)) ∈ TB := tb_in (i := 746) (by decide +kernel) rfl
theorem wd_688 : (Cond.methodLink "UnitVoices$Chooser" (121 : Nat) ({ cls := "UnitVoices$Choice", name := "add", desc := "(I)V" } : Jvm.MethodName)) ∈ TB := tb_in (i := 750) (by decide +kernel) rfl
theorem wd_692 : (Cond.methodLink "UnitVoices$Chooser" (113 : Nat) ({ cls := "UnitVoices$Tree", name := "nodeAbove", desc := "(I)I" } : Jvm.MethodName)) ∈ TB := tb_in (i := 754) (by decide +kernel) rfl
theorem wd_693 : (Cond.methodLink "UnitVoices$Chooser" (107 : Nat) ({ cls := "UnitVoices$Choice", name := "miss", desc := "()V" } : Jvm.MethodName)) ∈ TB := tb_in (i := 755) (by decide +kernel) rfl
theorem wd_697 : (Cond.methodLink "UnitVoices" (212 : Nat) ({ cls := "UnitVoices$Choice", name := "isMissing", desc := "()Z" } : Jvm.MethodName)) ∈ TB := tb_in (i := 759) (by decide +kernel) rfl
theorem wd_701 : (Cond.methodLink "UnitVoicesLaw" (70 : Nat) ({ cls := "UnitVoices", name := "steps", desc := "(I)I" } : Jvm.MethodName)) ∈ TB := tb_in (i := 763) (by decide +kernel) rfl
theorem wd_705 : (Cond.methodLink "UnitVoicesLaw" (74 : Nat) ({ cls := "UnitVoices", name := "tried", desc := "(I)I" } : Jvm.MethodName)) ∈ TB := tb_in (i := 767) (by decide +kernel) rfl
theorem wd_709 : (Cond.methodLink "UnitVoicesLaw" (78 : Nat) ({ cls := "UnitVoices", name := "fit", desc := "(II)I" } : Jvm.MethodName)) ∈ TB := tb_in (i := 771) (by decide +kernel) rfl
theorem wd_713 : (Cond.methodLink "UnitVoices" (228 : Nat) ({ cls := "UnitVoices$Prices", name := "ofFit", desc := "(III)I" } : Jvm.MethodName)) ∈ TB := tb_in (i := 775) (by decide +kernel) rfl
theorem wd_717 : (Cond.methodLink "UnitVoices$Prices" (26 : Nat) ({ cls := "java/lang/Math", name := "abs", desc := "(I)I" } : Jvm.MethodName)) ∈ TB := tb_in (i := 779) (by decide +kernel) rfl
theorem wd_720 : (Cond.methodLink "UnitVoices$Prices" (36 : Nat) ({ cls := "UnitVoices$Prices", name := "besidePart", desc := "(II)I" } : Jvm.MethodName)) ∈ TB := tb_in (i := 782) (by decide +kernel) rfl
theorem wd_724 : (Cond.methodLink "UnitVoices$Prices" (43 : Nat) ({ cls := "UnitVoices$Row", name := "leftOf", desc := "(I)I" } : Jvm.MethodName)) ∈ TB := tb_in (i := 786) (by decide +kernel) rfl
theorem wd_725 : (Cond.methodLink "UnitVoices$Prices" (49 : Nat) ({ cls := "UnitVoices$Row", name := "rightOf", desc := "(I)I" } : Jvm.MethodName)) ∈ TB := tb_in (i := 787) (by decide +kernel) rfl
theorem wd_726 : (Cond.methodLink "UnitVoicesLaw" (82 : Nat) ({ cls := "UnitVoices", name := "joint", desc := "(II)I" } : Jvm.MethodName)) ∈ TB := tb_in (i := 788) (by decide +kernel) rfl
theorem wd_730 : (Cond.methodLink "UnitVoices" (232 : Nat) ({ cls := "UnitVoices$Prices", name := "ofJoint", desc := "(II)I" } : Jvm.MethodName)) ∈ TB := tb_in (i := 792) (by decide +kernel) rfl
theorem wd_734 : (Cond.methodLink "UnitVoicesLaw" (86 : Nat) ({ cls := "UnitVoices", name := "cost", desc := "()I" } : Jvm.MethodName)) ∈ TB := tb_in (i := 796) (by decide +kernel) rfl
theorem wd_738 : (Cond.methodLink "UnitVoices" (236 : Nat) ({ cls := "UnitVoices", name := "findChain", desc := "(I)Z" } : Jvm.MethodName)) ∈ TB := tb_in (i := 800) (by decide +kernel) rfl
theorem wd_742 : (Cond.methodLink "UnitVoices" (267 : Nat) ({ cls := "UnitVoices$Chooser", name := "chooseAll", desc := "(I)Z" } : Jvm.MethodName)) ∈ TB := tb_in (i := 804) (by decide +kernel) rfl
theorem wd_746 : (Cond.methodLink "UnitVoices$Chooser" (79 : Nat) ({ cls := "UnitVoices$Choice", name := "isMissing", desc := "()Z" } : Jvm.MethodName)) ∈ TB := tb_in (i := 808) (by decide +kernel) rfl
theorem wd_747 : (Cond.methodLink "UnitVoices" (271 : Nat) ({ cls := "UnitVoices$Chains", name := "weigh", desc := "(I)V" } : Jvm.MethodName)) ∈ TB := tb_in (i := 809) (by decide +kernel) rfl
theorem wd_751 : (Cond.methodLink "UnitVoices$Chains" (58 : Nat) ({ cls := "UnitVoices$Chains", name := "weighEntry", desc := "(III)V" } : Jvm.MethodName)) ∈ TB := tb_in (i := 813) (by decide +kernel) rfl
theorem wd_755 : (Cond.methodLink "UnitVoices$Chains" (72 : Nat) ({ cls := "UnitVoices$Prices", name := "ofFit", desc := "(III)I" } : Jvm.MethodName)) ∈ TB := tb_in (i := 817) (by decide +kernel) rfl
theorem wd_756 : (Cond.methodLink "UnitVoices$Chains" (62 : Nat) ({ cls := "UnitVoices$Tally", name := "begin", desc := "(I)V" } : Jvm.MethodName)) ∈ TB := tb_in (i := 818) (by decide +kernel) rfl
theorem wd_757 : (Cond.methodLink "UnitVoices$Chains" (65 : Nat) ({ cls := "UnitVoices$Tally", name := "offer", desc := "(IILUnitVoices$Tally;I)V" } : Jvm.MethodName)) ∈ TB := tb_in (i := 819) (by decide +kernel) rfl
theorem wd_761 : (Cond.methodLink "UnitVoices$Tally" (38 : Nat) ({ cls := "java/lang/Math", name := "min", desc := "(II)I" } : Jvm.MethodName)) ∈ TB := tb_in (i := 823) (by decide +kernel) rfl
theorem wd_764 : (Cond.constant "UnitVoices$Tally" (41 : Nat) (1000000000 : Int32)) ∈ TB := tb_in (i := 826) (by decide +kernel) rfl
theorem wd_765 : (Cond.methodLink "UnitVoices$Chains" (78 : Nat) ({ cls := "UnitVoices$Prices", name := "ofJoint", desc := "(II)I" } : Jvm.MethodName)) ∈ TB := tb_in (i := 827) (by decide +kernel) rfl
theorem wd_766 : (Cond.methodLink "UnitVoices" (295 : Nat) ({ cls := "UnitVoices$Chains", name := "trace", desc := "()V" } : Jvm.MethodName)) ∈ TB := tb_in (i := 828) (by decide +kernel) rfl
theorem wd_770 : (Cond.methodLink "UnitVoices" (239 : Nat) ({ cls := "UnitVoices$Chains", name := "leastPrice", desc := "()I" } : Jvm.MethodName)) ∈ TB := tb_in (i := 832) (by decide +kernel) rfl
theorem wd_774 : (Cond.methodLink "UnitVoicesLaw" (90 : Nat) ({ cls := "UnitVoices", name := "chain", desc := "(I)I" } : Jvm.MethodName)) ∈ TB := tb_in (i := 836) (by decide +kernel) rfl
theorem wd_778 : (Cond.methodLink "UnitVoicesLaw" (94 : Nat) ({ cls := "UnitVoices", name := "ways", desc := "()I" } : Jvm.MethodName)) ∈ TB := tb_in (i := 840) (by decide +kernel) rfl
theorem wd_782 : (Cond.methodLink "UnitVoices" (245 : Nat) ({ cls := "UnitVoices$Chains", name := "waysOfLeast", desc := "()I" } : Jvm.MethodName)) ∈ TB := tb_in (i := 844) (by decide +kernel) rfl
theorem wd_786 : (Cond.methodLink "UnitVoicesLaw" (98 : Nat) ({ cls := "UnitVoices", name := "next", desc := "()I" } : Jvm.MethodName)) ∈ TB := tb_in (i := 848) (by decide +kernel) rfl
theorem wd_790 : (Cond.methodLink "UnitVoices" (248 : Nat) ({ cls := "UnitVoices$Chains", name := "secondPrice", desc := "()I" } : Jvm.MethodName)) ∈ TB := tb_in (i := 852) (by decide +kernel) rfl
theorem wd_794 : (Cond.constant "UnitVoices$Chains" (91 : Nat) (1000000 : Int32)) ∈ TB := tb_in (i := 856) (by decide +kernel) rfl
theorem wd_795 : (Cond.methodLink "UnitVoicesLaw" (102 : Nat) ({ cls := "UnitVoices", name := "dearest", desc := "()I" } : Jvm.MethodName)) ∈ TB := tb_in (i := 857) (by decide +kernel) rfl
theorem wd_799 : (Cond.methodLink "UnitVoices" (251 : Nat) ({ cls := "UnitVoices$Chains", name := "mostPrice", desc := "()I" } : Jvm.MethodName)) ∈ TB := tb_in (i := 861) (by decide +kernel) rfl
theorem wd_803 : (Cond.methodLink "UnitVoicesLaw" (106 : Nat) ({ cls := "UnitVoices", name := "without", desc := "(I)I" } : Jvm.MethodName)) ∈ TB := tb_in (i := 865) (by decide +kernel) rfl
theorem wd_807 : (Cond.methodLink "UnitVoicesLaw" (110 : Nat) ({ cls := "UnitVoices", name := "about", desc := "(I)I" } : Jvm.MethodName)) ∈ TB := tb_in (i := 869) (by decide +kernel) rfl
theorem wd_811 : (Cond.methodLink "UnitVoices" (254 : Nat) ({ cls := "UnitVoices$Chains", name := "pathFollowers", desc := "(LUnitVoices$Units;)I" } : Jvm.MethodName)) ∈ TB := tb_in (i := 873) (by decide +kernel) rfl
theorem wd_815 : (Cond.methodLink "UnitVoices" (258 : Nat) ({ cls := "UnitVoices$Chains", name := "pathFits", desc := "(I)I" } : Jvm.MethodName)) ∈ TB := tb_in (i := 877) (by decide +kernel) rfl
theorem wd_819 : (Cond.methodLink "UnitVoices" (261 : Nat) ({ cls := "UnitVoices$Chains", name := "pathJoints", desc := "()I" } : Jvm.MethodName)) ∈ TB := tb_in (i := 881) (by decide +kernel) rfl
theorem wd_823 : (Cond.methodLink "UnitVoices" (264 : Nat) ({ cls := "UnitVoices$Chains", name := "dearestPathJoint", desc := "()I" } : Jvm.MethodName)) ∈ TB := tb_in (i := 885) (by decide +kernel) rfl
theorem wd_827 : (Cond.methodLink "UnitVoices$Chains" (103 : Nat) ({ cls := "java/lang/Math", name := "max", desc := "(II)I" } : Jvm.MethodName)) ∈ TB := tb_in (i := 889) (by decide +kernel) rfl
theorem wd_828 : (Cond.methodLink "UnitVoicesLaw" (114 : Nat) ({ cls := "UnitVoices", name := "cheapest", desc := "(I)I" } : Jvm.MethodName)) ∈ TB := tb_in (i := 890) (by decide +kernel) rfl
theorem wd_832 : (Cond.constant "UnitVoices" (270 : Nat) (1000000 : Int32)) ∈ TB := tb_in (i := 894) (by decide +kernel) rfl
theorem wd_833 : (Cond.methodLink "UnitVoicesLaw" (118 : Nat) ({ cls := "UnitVoices", name := "told", desc := "(I)I" } : Jvm.MethodName)) ∈ TB := tb_in (i := 895) (by decide +kernel) rfl
theorem wd_837 : (Cond.methodLink "UnitVoicesLaw" (122 : Nat) ({ cls := "UnitVoices", name := "digest", desc := "()J" } : Jvm.MethodName)) ∈ TB := tb_in (i := 899) (by decide +kernel) rfl
theorem wd_841 : (Cond.constantLong "UnitVoices" (280 : Nat) (1987 : Int64)) ∈ TB := tb_in (i := 903) (by decide +kernel) rfl
theorem wd_842 : (Cond.constantLong "UnitVoices" (282 : Nat) (31 : Int64)) ∈ TB := tb_in (i := 904) (by decide +kernel) rfl
theorem wd_843 : (Cond.methodLink "UnitVoices" (284 : Nat) ({ cls := "UnitVoices", name := "told", desc := "(I)I" } : Jvm.MethodName)) ∈ TB := tb_in (i := 905) (by decide +kernel) rfl
theorem wd_844 : (Cond.methodLink "UnitVoices" (287 : Nat) ({ cls := "UnitVoices", name := "of", desc := "(II)I" } : Jvm.MethodName)) ∈ TB := tb_in (i := 906) (by decide +kernel) rfl
theorem wd_845 : (Cond.methodLink "UnitVoices" (290 : Nat) ({ cls := "UnitVoices", name := "target", desc := "(II)I" } : Jvm.MethodName)) ∈ TB := tb_in (i := 907) (by decide +kernel) rfl
theorem wd_846 : (Cond.constantLong "UnitVoices" (293 : Nat) (-1 : Int64)) ∈ TB := tb_in (i := 908) (by decide +kernel) rfl
theorem wd_847 : (Cond.classLink "UnitVoicesLaw" (10 : Nat) "UnitVoicesModel") ∈ TB := tb_in (i := 909) (by decide +kernel) rfl
theorem wd_848 : (Cond.instantiable "UnitVoicesModel" (40 : Nat)) ∈ TB := tb_in (i := 910) (by decide +kernel) rfl
theorem wd_849 : (Cond.methodLink "UnitVoicesLaw" (12 : Nat) ({ cls := "UnitVoicesModel", name := "<init>", desc := "()V" } : Jvm.MethodName)) ∈ TB := tb_in (i := 911) (by decide +kernel) rfl
theorem wd_852 : (Cond.methodLink "UnitVoicesModel" (1 : Nat) ({ cls := "java/lang/Object", name := "<init>", desc := "()V" } : Jvm.MethodName)) ∈ TB := tb_in (i := 914) (by decide +kernel) rfl
theorem wd_853 : (Cond.fieldLink "UnitVoicesModel" (7 : Nat) "UnitVoicesModel" "units" "[I") ∈ TB := tb_in (i := 915) (by decide +kernel) rfl
theorem wd_854 : (Cond.fieldLink "UnitVoicesModel" (86 : Nat) "UnitVoicesModel" "many" "I") ∈ TB := tb_in (i := 916) (by decide +kernel) rfl
theorem wd_855 : (Cond.fieldLink "UnitVoicesModel" (13 : Nat) "UnitVoicesModel" "row" "[I") ∈ TB := tb_in (i := 917) (by decide +kernel) rfl
theorem wd_856 : (Cond.fieldLink "UnitVoicesModel" (187 : Nat) "UnitVoicesModel" "rowLong" "I") ∈ TB := tb_in (i := 918) (by decide +kernel) rfl
theorem wd_857 : (Cond.fieldLink "UnitVoicesModel" (16 : Nat) "UnitVoicesModel" "others" "[I") ∈ TB := tb_in (i := 919) (by decide +kernel) rfl
theorem wd_858 : (Cond.fieldLink "UnitVoicesModel" (145 : Nat) "UnitVoicesModel" "kind" "I") ∈ TB := tb_in (i := 920) (by decide +kernel) rfl
theorem wd_859 : (Cond.fieldLink "UnitVoicesModel" (19 : Nat) "UnitVoicesModel" "nodeIs" "[I") ∈ TB := tb_in (i := 921) (by decide +kernel) rfl
theorem wd_860 : (Cond.fieldLink "UnitVoicesModel" (22 : Nat) "UnitVoicesModel" "nodeFigure" "[I") ∈ TB := tb_in (i := 922) (by decide +kernel) rfl
theorem wd_861 : (Cond.fieldLink "UnitVoicesModel" (25 : Nat) "UnitVoicesModel" "nodeYes" "[I") ∈ TB := tb_in (i := 923) (by decide +kernel) rfl
theorem wd_862 : (Cond.fieldLink "UnitVoicesModel" (28 : Nat) "UnitVoicesModel" "nodeNo" "[I") ∈ TB := tb_in (i := 924) (by decide +kernel) rfl
theorem wd_863 : (Cond.fieldLink "UnitVoicesModel" (31 : Nat) "UnitVoicesModel" "leaves" "I") ∈ TB := tb_in (i := 925) (by decide +kernel) rfl
theorem wd_864 : (Cond.fieldLink "UnitVoicesModel" (190 : Nat) "UnitVoicesModel" "deepest" "I") ∈ TB := tb_in (i := 926) (by decide +kernel) rfl
theorem wd_865 : (Cond.fieldLink "UnitVoicesModel" (35 : Nat) "UnitVoicesModel" "refused" "[I") ∈ TB := tb_in (i := 927) (by decide +kernel) rfl
theorem wd_866 : (Cond.fieldLink "UnitVoicesModel" (38 : Nat) "UnitVoicesModel" "text" "[I") ∈ TB := tb_in (i := 928) (by decide +kernel) rfl
theorem wd_867 : (Cond.fieldLink "UnitVoicesModel" (150 : Nat) "UnitVoicesModel" "textLong" "I") ∈ TB := tb_in (i := 929) (by decide +kernel) rfl
theorem wd_868 : (Cond.fieldLink "UnitVoicesModel" (153 : Nat) "UnitVoicesModel" "place" "I") ∈ TB := tb_in (i := 930) (by decide +kernel) rfl
theorem wd_869 : (Cond.fieldLink "UnitVoicesModel" (41 : Nat) "UnitVoicesModel" "readRow" "[I") ∈ TB := tb_in (i := 931) (by decide +kernel) rfl
theorem wd_870 : (Cond.fieldLink "UnitVoicesModel" (44 : Nat) "UnitVoicesModel" "readIs" "[I") ∈ TB := tb_in (i := 932) (by decide +kernel) rfl
theorem wd_871 : (Cond.fieldLink "UnitVoicesModel" (47 : Nat) "UnitVoicesModel" "readFigure" "[I") ∈ TB := tb_in (i := 933) (by decide +kernel) rfl
theorem wd_872 : (Cond.fieldLink "UnitVoicesModel" (50 : Nat) "UnitVoicesModel" "readYes" "[I") ∈ TB := tb_in (i := 934) (by decide +kernel) rfl
theorem wd_873 : (Cond.fieldLink "UnitVoicesModel" (53 : Nat) "UnitVoicesModel" "readNo" "[I") ∈ TB := tb_in (i := 935) (by decide +kernel) rfl
theorem wd_874 : (Cond.fieldLink "UnitVoicesModel" (165 : Nat) "UnitVoicesModel" "readLeaves" "I") ∈ TB := tb_in (i := 936) (by decide +kernel) rfl
theorem wd_875 : (Cond.fieldLink "UnitVoicesModel" (168 : Nat) "UnitVoicesModel" "readDeep" "I") ∈ TB := tb_in (i := 937) (by decide +kernel) rfl
theorem wd_876 : (Cond.fieldLink "UnitVoicesModel" (56 : Nat) "UnitVoicesModel" "open" "[I") ∈ TB := tb_in (i := 938) (by decide +kernel) rfl
theorem wd_877 : (Cond.fieldLink "UnitVoicesModel" (59 : Nat) "UnitVoicesModel" "has" "[I") ∈ TB := tb_in (i := 939) (by decide +kernel) rfl
theorem wd_878 : (Cond.fieldLink "UnitVoicesModel" (62 : Nat) "UnitVoicesModel" "chosen" "[I") ∈ TB := tb_in (i := 940) (by decide +kernel) rfl
theorem wd_879 : (Cond.fieldLink "UnitVoicesModel" (65 : Nat) "UnitVoicesModel" "chosenLong" "[I") ∈ TB := tb_in (i := 941) (by decide +kernel) rfl
theorem wd_880 : (Cond.fieldLink "UnitVoicesModel" (68 : Nat) "UnitVoicesModel" "gone" "I") ∈ TB := tb_in (i := 942) (by decide +kernel) rfl
theorem wd_881 : (Cond.fieldLink "UnitVoicesModel" (225 : Nat) "UnitVoicesModel" "stepsNow" "I") ∈ TB := tb_in (i := 943) (by decide +kernel) rfl
theorem wd_882 : (Cond.fieldLink "UnitVoicesModel" (228 : Nat) "UnitVoicesModel" "triedNow" "I") ∈ TB := tb_in (i := 944) (by decide +kernel) rfl
theorem wd_883 : (Cond.fieldLink "UnitVoicesModel" (71 : Nat) "UnitVoicesModel" "cheap" "[I") ∈ TB := tb_in (i := 945) (by decide +kernel) rfl
theorem wd_884 : (Cond.fieldLink "UnitVoicesModel" (74 : Nat) "UnitVoicesModel" "second" "[I") ∈ TB := tb_in (i := 946) (by decide +kernel) rfl
theorem wd_885 : (Cond.fieldLink "UnitVoicesModel" (77 : Nat) "UnitVoicesModel" "dear" "[I") ∈ TB := tb_in (i := 947) (by decide +kernel) rfl
theorem wd_886 : (Cond.fieldLink "UnitVoicesModel" (80 : Nat) "UnitVoicesModel" "counts" "[I") ∈ TB := tb_in (i := 948) (by decide +kernel) rfl
theorem wd_887 : (Cond.fieldLink "UnitVoicesModel" (252 : Nat) "UnitVoicesModel" "cheapestOf" "I") ∈ TB := tb_in (i := 949) (by decide +kernel) rfl
theorem wd_888 : (Cond.fieldLink "UnitVoicesModel" (255 : Nat) "UnitVoicesModel" "nextCheapest" "I") ∈ TB := tb_in (i := 950) (by decide +kernel) rfl
theorem wd_889 : (Cond.fieldLink "UnitVoicesModel" (258 : Nat) "UnitVoicesModel" "dearestOf" "I") ∈ TB := tb_in (i := 951) (by decide +kernel) rfl
theorem wd_890 : (Cond.fieldLink "UnitVoicesModel" (261 : Nat) "UnitVoicesModel" "waysOf" "I") ∈ TB := tb_in (i := 952) (by decide +kernel) rfl
theorem wd_891 : (Cond.fieldLink "UnitVoicesModel" (83 : Nat) "UnitVoicesModel" "chainNow" "[I") ∈ TB := tb_in (i := 953) (by decide +kernel) rfl
theorem wd_892 : (Cond.fieldLink "UnitVoicesModel" (280 : Nat) "UnitVoicesModel" "byKind" "I") ∈ TB := tb_in (i := 954) (by decide +kernel) rfl
theorem wd_974 : (Cond.methodLink "UnitVoicesLaw" (17 : Nat) ({ cls := "UnitVoicesModel", name := "unit", desc := "(IIIIII)I" } : Jvm.MethodName)) ∈ TB := tb_in (i := 1036) (by decide +kernel) rfl
theorem wd_978 : (Cond.methodLink "UnitVoicesModel" (95 : Nat) ({ cls := "UnitVoicesModel", name := "isSound", desc := "(I)Z" } : Jvm.MethodName)) ∈ TB := tb_in (i := 1040) (by decide +kernel) rfl
theorem wd_981 : (Cond.constantLong "UnitVoicesModel" (93 : Nat) (5 : Int64)) ∈ TB := tb_in (i := 1043) (by decide +kernel) rfl
theorem wd_982 : (Cond.methodLink "UnitVoicesModel" (89 : Nat) ({ cls := "UnitVoicesModel", name := "in", desc := "(JJJ)Z" } : Jvm.MethodName)) ∈ TB := tb_in (i := 1044) (by decide +kernel) rfl
theorem wd_985 : (Cond.constantLong "UnitVoicesModel" (99 : Nat) (6 : Int64)) ∈ TB := tb_in (i := 1047) (by decide +kernel) rfl
theorem wd_986 : (Cond.constantLong "UnitVoicesModel" (101 : Nat) (9 : Int64)) ∈ TB := tb_in (i := 1048) (by decide +kernel) rfl
theorem wd_987 : (Cond.constantLong "UnitVoicesModel" (103 : Nat) (3 : Int64)) ∈ TB := tb_in (i := 1049) (by decide +kernel) rfl
theorem wd_988 : (Cond.methodLink "UnitVoicesModel" (105 : Nat) ({ cls := "UnitVoicesModel", name := "bad", desc := "(I)I" } : Jvm.MethodName)) ∈ TB := tb_in (i := 1050) (by decide +kernel) rfl
theorem wd_992 : (Cond.methodLink "UnitVoicesModel" (109 : Nat) ({ cls := "UnitVoicesModel", name := "full", desc := "()I" } : Jvm.MethodName)) ∈ TB := tb_in (i := 1054) (by decide +kernel) rfl
theorem wd_996 : (Cond.methodLink "UnitVoicesModel" (113 : Nat) ({ cls := "UnitVoicesModel", name := "lays", desc := "(IIIIII)V" } : Jvm.MethodName)) ∈ TB := tb_in (i := 1058) (by decide +kernel) rfl
theorem wd_1000 : (Cond.methodLink "UnitVoicesLaw" (22 : Nat) ({ cls := "UnitVoicesModel", name := "records", desc := "(III)I" } : Jvm.MethodName)) ∈ TB := tb_in (i := 1062) (by decide +kernel) rfl
theorem wd_1004 : (Cond.constantLong "UnitVoicesModel" (117 : Nat) (999999 : Int64)) ∈ TB := tb_in (i := 1066) (by decide +kernel) rfl
theorem wd_1005 : (Cond.constantLong "UnitVoicesModel" (119 : Nat) (1103515245 : Int64)) ∈ TB := tb_in (i := 1067) (by decide +kernel) rfl
theorem wd_1006 : (Cond.constantLong "UnitVoicesModel" (121 : Nat) (12345 : Int64)) ∈ TB := tb_in (i := 1068) (by decide +kernel) rfl
theorem wd_1007 : (Cond.constantLong "UnitVoicesModel" (123 : Nat) (2147483648 : Int64)) ∈ TB := tb_in (i := 1069) (by decide +kernel) rfl
theorem wd_1008 : (Cond.methodLink "UnitVoicesModel" (125 : Nat) ({ cls := "UnitVoicesModel", name := "at", desc := "(II)I" } : Jvm.MethodName)) ∈ TB := tb_in (i := 1070) (by decide +kernel) rfl
theorem wd_1012 : (Cond.constantLong "UnitVoicesModel" (129 : Nat) (65536 : Int64)) ∈ TB := tb_in (i := 1074) (by decide +kernel) rfl
theorem wd_1013 : (Cond.constantLong "UnitVoicesModel" (131 : Nat) (4096 : Int64)) ∈ TB := tb_in (i := 1075) (by decide +kernel) rfl
theorem wd_1014 : (Cond.constantLong "UnitVoicesModel" (133 : Nat) (10 : Int64)) ∈ TB := tb_in (i := 1076) (by decide +kernel) rfl
theorem wd_1015 : (Cond.constantLong "UnitVoicesModel" (135 : Nat) (1024 : Int64)) ∈ TB := tb_in (i := 1077) (by decide +kernel) rfl
theorem wd_1016 : (Cond.methodLink "UnitVoicesLaw" (27 : Nat) ({ cls := "UnitVoicesModel", name := "of", desc := "(II)I" } : Jvm.MethodName)) ∈ TB := tb_in (i := 1078) (by decide +kernel) rfl
theorem wd_1020 : (Cond.methodLink "UnitVoicesModel" (137 : Nat) ({ cls := "UnitVoicesModel", name := "isUnit", desc := "(I)Z" } : Jvm.MethodName)) ∈ TB := tb_in (i := 1082) (by decide +kernel) rfl
theorem wd_1024 : (Cond.methodLink "UnitVoicesModel" (140 : Nat) ({ cls := "UnitVoicesModel", name := "nextOf", desc := "(I)I" } : Jvm.MethodName)) ∈ TB := tb_in (i := 1086) (by decide +kernel) rfl
theorem wd_1028 : (Cond.methodLink "UnitVoicesLaw" (32 : Nat) ({ cls := "UnitVoicesModel", name := "empties", desc := "()I" } : Jvm.MethodName)) ∈ TB := tb_in (i := 1090) (by decide +kernel) rfl
theorem wd_1032 : (Cond.methodLink "UnitVoicesLaw" (36 : Nat) ({ cls := "UnitVoicesModel", name := "other", desc := "(II)I" } : Jvm.MethodName)) ∈ TB := tb_in (i := 1094) (by decide +kernel) rfl
theorem wd_1036 : (Cond.methodLink "UnitVoicesLaw" (41 : Nat) ({ cls := "UnitVoicesModel", name := "fitter", desc := "(I)I" } : Jvm.MethodName)) ∈ TB := tb_in (i := 1098) (by decide +kernel) rfl
theorem wd_1040 : (Cond.constantLong "UnitVoicesModel" (143 : Nat) (4 : Int64)) ∈ TB := tb_in (i := 1102) (by decide +kernel) rfl
theorem wd_1041 : (Cond.methodLink "UnitVoicesLaw" (45 : Nat) ({ cls := "UnitVoicesModel", name := "type", desc := "(I)I" } : Jvm.MethodName)) ∈ TB := tb_in (i := 1103) (by decide +kernel) rfl
theorem wd_1045 : (Cond.constantLong "UnitVoicesModel" (148 : Nat) (127 : Int64)) ∈ TB := tb_in (i := 1107) (by decide +kernel) rfl
theorem wd_1046 : (Cond.methodLink "UnitVoicesLaw" (49 : Nat) ({ cls := "UnitVoicesModel", name := "clear", desc := "()I" } : Jvm.MethodName)) ∈ TB := tb_in (i := 1108) (by decide +kernel) rfl
theorem wd_1050 : (Cond.methodLink "UnitVoicesLaw" (53 : Nat) ({ cls := "UnitVoicesModel", name := "reads", desc := "()I" } : Jvm.MethodName)) ∈ TB := tb_in (i := 1112) (by decide +kernel) rfl
theorem wd_1054 : (Cond.methodLink "UnitVoicesModel" (178 : Nat) ({ cls := "UnitVoicesModel", name := "takesWord", desc := "()I" } : Jvm.MethodName)) ∈ TB := tb_in (i := 1116) (by decide +kernel) rfl
theorem wd_1058 : (Cond.methodLink "UnitVoicesModel" (156 : Nat) ({ cls := "UnitVoicesModel", name := "here", desc := "()I" } : Jvm.MethodName)) ∈ TB := tb_in (i := 1120) (by decide +kernel) rfl
theorem wd_1062 : (Cond.methodLink "UnitVoicesModel" (159 : Nat) ({ cls := "UnitVoicesModel", name := "letterOf", desc := "(II)I" } : Jvm.MethodName)) ∈ TB := tb_in (i := 1124) (by decide +kernel) rfl
theorem wd_1065 : (Cond.methodLink "UnitVoicesModel" (181 : Nat) ({ cls := "UnitVoicesModel", name := "readsRow", desc := "()I" } : Jvm.MethodName)) ∈ TB := tb_in (i := 1127) (by decide +kernel) rfl
theorem wd_1069 : (Cond.methodLink "UnitVoicesModel" (162 : Nat) ({ cls := "UnitVoicesModel", name := "takes", desc := "(II)I" } : Jvm.MethodName)) ∈ TB := tb_in (i := 1131) (by decide +kernel) rfl
theorem wd_1073 : (Cond.methodLink "UnitVoicesModel" (184 : Nat) ({ cls := "UnitVoicesModel", name := "readsTree", desc := "()I" } : Jvm.MethodName)) ∈ TB := tb_in (i := 1135) (by decide +kernel) rfl
theorem wd_1077 : (Cond.methodLink "UnitVoicesModel" (171 : Nat) ({ cls := "UnitVoicesModel", name := "questionOf", desc := "(I)I" } : Jvm.MethodName)) ∈ TB := tb_in (i := 1139) (by decide +kernel) rfl
theorem wd_1080 : (Cond.methodLink "UnitVoicesModel" (174 : Nat) ({ cls := "UnitVoicesModel", name := "hangs", desc := "(II)V" } : Jvm.MethodName)) ∈ TB := tb_in (i := 1142) (by decide +kernel) rfl
theorem wd_1084 : (Cond.methodLink "UnitVoicesLaw" (57 : Nat) ({ cls := "UnitVoicesModel", name := "target", desc := "(II)I" } : Jvm.MethodName)) ∈ TB := tb_in (i := 1146) (by decide +kernel) rfl
theorem wd_1088 : (Cond.methodLink "UnitVoicesModel" (193 : Nat) ({ cls := "UnitVoicesModel", name := "isTarget", desc := "(I)Z" } : Jvm.MethodName)) ∈ TB := tb_in (i := 1150) (by decide +kernel) rfl
theorem wd_1092 : (Cond.methodLink "UnitVoicesModel" (196 : Nat) ({ cls := "UnitVoicesModel", name := "targetLeft", desc := "(I)I" } : Jvm.MethodName)) ∈ TB := tb_in (i := 1154) (by decide +kernel) rfl
theorem wd_1096 : (Cond.methodLink "UnitVoicesModel" (199 : Nat) ({ cls := "UnitVoicesModel", name := "targetRight", desc := "(I)I" } : Jvm.MethodName)) ∈ TB := tb_in (i := 1158) (by decide +kernel) rfl
theorem wd_1100 : (Cond.methodLink "UnitVoicesLaw" (61 : Nat) ({ cls := "UnitVoicesModel", name := "tree", desc := "(I)I" } : Jvm.MethodName)) ∈ TB := tb_in (i := 1162) (by decide +kernel) rfl
theorem wd_1104 : (Cond.constantLong "UnitVoicesModel" (217 : Nat) (2 : Int64)) ∈ TB := tb_in (i := 1166) (by decide +kernel) rfl
theorem wd_1105 : (Cond.methodLink "UnitVoicesModel" (219 : Nat) ({ cls := "UnitVoicesModel", name := "emptyLeaves", desc := "()I" } : Jvm.MethodName)) ∈ TB := tb_in (i := 1167) (by decide +kernel) rfl
theorem wd_1109 : (Cond.methodLink "UnitVoicesModel" (213 : Nat) ({ cls := "UnitVoicesModel", name := "leafOf", desc := "(ZI)I" } : Jvm.MethodName)) ∈ TB := tb_in (i := 1171) (by decide +kernel) rfl
theorem wd_1113 : (Cond.methodLink "UnitVoicesModel" (206 : Nat) ({ cls := "UnitVoicesModel", name := "unitAnswers", desc := "(II)Z" } : Jvm.MethodName)) ∈ TB := tb_in (i := 1175) (by decide +kernel) rfl
theorem wd_1117 : (Cond.methodLink "UnitVoicesModel" (202 : Nat) ({ cls := "UnitVoicesModel", name := "answers", desc := "(IIIII)Z" } : Jvm.MethodName)) ∈ TB := tb_in (i := 1179) (by decide +kernel) rfl
theorem wd_1121 : (Cond.methodLink "UnitVoicesModel" (210 : Nat) ({ cls := "UnitVoicesModel", name := "targetAnswers", desc := "(II)Z" } : Jvm.MethodName)) ∈ TB := tb_in (i := 1183) (by decide +kernel) rfl
theorem wd_1125 : (Cond.methodLink "UnitVoicesLaw" (65 : Nat) ({ cls := "UnitVoicesModel", name := "leaf", desc := "(II)I" } : Jvm.MethodName)) ∈ TB := tb_in (i := 1187) (by decide +kernel) rfl
theorem wd_1129 : (Cond.methodLink "UnitVoicesLaw" (69 : Nat) ({ cls := "UnitVoicesModel", name := "choice", desc := "(II)I" } : Jvm.MethodName)) ∈ TB := tb_in (i := 1191) (by decide +kernel) rfl
theorem wd_1133 : (Cond.constantLong "UnitVoicesModel" (234 : Nat) (7 : Int64)) ∈ TB := tb_in (i := 1195) (by decide +kernel) rfl
theorem wd_1134 : (Cond.methodLink "UnitVoicesModel" (236 : Nat) ({ cls := "UnitVoicesModel", name := "chooses", desc := "(I)Z" } : Jvm.MethodName)) ∈ TB := tb_in (i := 1196) (by decide +kernel) rfl
theorem wd_1138 : (Cond.methodLink "UnitVoicesModel" (222 : Nat) ({ cls := "UnitVoicesModel", name := "wayLong", desc := "(I)I" } : Jvm.MethodName)) ∈ TB := tb_in (i := 1200) (by decide +kernel) rfl
theorem wd_1142 : (Cond.methodLink "UnitVoicesModel" (231 : Nat) ({ cls := "UnitVoicesModel", name := "goesAlong", desc := "(II)I" } : Jvm.MethodName)) ∈ TB := tb_in (i := 1204) (by decide +kernel) rfl
theorem wd_1146 : (Cond.methodLink "UnitVoicesModel" (239 : Nat) ({ cls := "UnitVoicesModel", name := "no", desc := "()I" } : Jvm.MethodName)) ∈ TB := tb_in (i := 1208) (by decide +kernel) rfl
theorem wd_1150 : (Cond.methodLink "UnitVoicesLaw" (73 : Nat) ({ cls := "UnitVoicesModel", name := "steps", desc := "(I)I" } : Jvm.MethodName)) ∈ TB := tb_in (i := 1212) (by decide +kernel) rfl
theorem wd_1154 : (Cond.methodLink "UnitVoicesLaw" (77 : Nat) ({ cls := "UnitVoicesModel", name := "tried", desc := "(I)I" } : Jvm.MethodName)) ∈ TB := tb_in (i := 1216) (by decide +kernel) rfl
theorem wd_1158 : (Cond.methodLink "UnitVoicesLaw" (81 : Nat) ({ cls := "UnitVoicesModel", name := "fit", desc := "(II)I" } : Jvm.MethodName)) ∈ TB := tb_in (i := 1220) (by decide +kernel) rfl
theorem wd_1162 : (Cond.methodLink "UnitVoicesModel" (245 : Nat) ({ cls := "UnitVoicesModel", name := "fitAs", desc := "(III)I" } : Jvm.MethodName)) ∈ TB := tb_in (i := 1224) (by decide +kernel) rfl
theorem wd_1166 : (Cond.methodLink "UnitVoicesModel" (242 : Nat) ({ cls := "UnitVoicesModel", name := "far", desc := "(II)I" } : Jvm.MethodName)) ∈ TB := tb_in (i := 1228) (by decide +kernel) rfl
theorem wd_1169 : (Cond.methodLink "UnitVoicesLaw" (85 : Nat) ({ cls := "UnitVoicesModel", name := "joint", desc := "(II)I" } : Jvm.MethodName)) ∈ TB := tb_in (i := 1231) (by decide +kernel) rfl
theorem wd_1173 : (Cond.methodLink "UnitVoicesModel" (249 : Nat) ({ cls := "UnitVoicesModel", name := "jointOf", desc := "(II)I" } : Jvm.MethodName)) ∈ TB := tb_in (i := 1235) (by decide +kernel) rfl
theorem wd_1177 : (Cond.methodLink "UnitVoicesLaw" (89 : Nat) ({ cls := "UnitVoicesModel", name := "cost", desc := "()I" } : Jvm.MethodName)) ∈ TB := tb_in (i := 1239) (by decide +kernel) rfl
theorem wd_1181 : (Cond.methodLink "UnitVoicesModel" (286 : Nat) ({ cls := "UnitVoicesModel", name := "chainsNow", desc := "()Z" } : Jvm.MethodName)) ∈ TB := tb_in (i := 1243) (by decide +kernel) rfl
theorem wd_1185 : (Cond.methodLink "UnitVoicesModel" (283 : Nat) ({ cls := "UnitVoicesModel", name := "chains", desc := "(I)Z" } : Jvm.MethodName)) ∈ TB := tb_in (i := 1247) (by decide +kernel) rfl
theorem wd_1189 : (Cond.methodLink "UnitVoicesModel" (271 : Nat) ({ cls := "UnitVoicesModel", name := "begins", desc := "()V" } : Jvm.MethodName)) ∈ TB := tb_in (i := 1251) (by decide +kernel) rfl
theorem wd_1193 : (Cond.methodLink "UnitVoicesModel" (274 : Nat) ({ cls := "UnitVoicesModel", name := "takesIn", desc := "(II)V" } : Jvm.MethodName)) ∈ TB := tb_in (i := 1255) (by decide +kernel) rfl
theorem wd_1197 : (Cond.methodLink "UnitVoicesModel" (264 : Nat) ({ cls := "UnitVoicesModel", name := "offers", desc := "(I)V" } : Jvm.MethodName)) ∈ TB := tb_in (i := 1259) (by decide +kernel) rfl
theorem wd_1201 : (Cond.constantLong "UnitVoicesModel" (268 : Nat) (1000000000 : Int64)) ∈ TB := tb_in (i := 1263) (by decide +kernel) rfl
theorem wd_1202 : (Cond.constant "UnitVoicesModel" (270 : Nat) (1000000000 : Int32)) ∈ TB := tb_in (i := 1264) (by decide +kernel) rfl
theorem wd_1203 : (Cond.methodLink "UnitVoicesLaw" (93 : Nat) ({ cls := "UnitVoicesModel", name := "chain", desc := "(I)I" } : Jvm.MethodName)) ∈ TB := tb_in (i := 1265) (by decide +kernel) rfl
theorem wd_1207 : (Cond.methodLink "UnitVoicesModel" (290 : Nat) ({ cls := "UnitVoicesModel", name := "layChain", desc := "()V" } : Jvm.MethodName)) ∈ TB := tb_in (i := 1269) (by decide +kernel) rfl
theorem wd_1211 : (Cond.methodLink "UnitVoicesModel" (277 : Nat) ({ cls := "UnitVoicesModel", name := "fitNow", desc := "(II)I" } : Jvm.MethodName)) ∈ TB := tb_in (i := 1273) (by decide +kernel) rfl
theorem wd_1215 : (Cond.methodLink "UnitVoicesLaw" (97 : Nat) ({ cls := "UnitVoicesModel", name := "ways", desc := "()I" } : Jvm.MethodName)) ∈ TB := tb_in (i := 1277) (by decide +kernel) rfl
theorem wd_1219 : (Cond.methodLink "UnitVoicesLaw" (101 : Nat) ({ cls := "UnitVoicesModel", name := "next", desc := "()I" } : Jvm.MethodName)) ∈ TB := tb_in (i := 1281) (by decide +kernel) rfl
theorem wd_1223 : (Cond.methodLink "UnitVoicesLaw" (105 : Nat) ({ cls := "UnitVoicesModel", name := "dearest", desc := "()I" } : Jvm.MethodName)) ∈ TB := tb_in (i := 1285) (by decide +kernel) rfl
theorem wd_1227 : (Cond.methodLink "UnitVoicesLaw" (109 : Nat) ({ cls := "UnitVoicesModel", name := "without", desc := "(I)I" } : Jvm.MethodName)) ∈ TB := tb_in (i := 1289) (by decide +kernel) rfl
theorem wd_1231 : (Cond.methodLink "UnitVoicesLaw" (113 : Nat) ({ cls := "UnitVoicesModel", name := "about", desc := "(I)I" } : Jvm.MethodName)) ∈ TB := tb_in (i := 1293) (by decide +kernel) rfl
theorem wd_1235 : (Cond.methodLink "UnitVoicesLaw" (117 : Nat) ({ cls := "UnitVoicesModel", name := "cheapest", desc := "(I)I" } : Jvm.MethodName)) ∈ TB := tb_in (i := 1297) (by decide +kernel) rfl
theorem wd_1239 : (Cond.methodLink "UnitVoicesLaw" (121 : Nat) ({ cls := "UnitVoicesModel", name := "told", desc := "(I)I" } : Jvm.MethodName)) ∈ TB := tb_in (i := 1301) (by decide +kernel) rfl
theorem wd_1243 : (Cond.methodLink "UnitVoicesModel" (293 : Nat) ({ cls := "UnitVoicesModel", name := "toldOf", desc := "(I)I" } : Jvm.MethodName)) ∈ TB := tb_in (i := 1305) (by decide +kernel) rfl
theorem wd_1247 : (Cond.methodLink "UnitVoicesLaw" (126 : Nat) ({ cls := "UnitVoicesModel", name := "digest", desc := "()J" } : Jvm.MethodName)) ∈ TB := tb_in (i := 1309) (by decide +kernel) rfl
theorem wd_1251 : (Cond.constantLong "UnitVoicesModel" (298 : Nat) (1987 : Int64)) ∈ TB := tb_in (i := 1313) (by decide +kernel) rfl
theorem wd_1252 : (Cond.constantLong "UnitVoicesModel" (296 : Nat) (31 : Int64)) ∈ TB := tb_in (i := 1314) (by decide +kernel) rfl
theorem wd_1253 : (Cond.methodLink "UnitVoicesModel" (300 : Nat) ({ cls := "UnitVoicesModel", name := "sums", desc := "(J[II)J" } : Jvm.MethodName)) ∈ TB := tb_in (i := 1315) (by decide +kernel) rfl
theorem wd_1256 : (Cond.fieldLink "java/lang/String" (9 : Nat) "java/lang/String" "value" "[B") ∈ TB := tb_in (i := 1318) (by decide +kernel) rfl
theorem wd_1257 : (Cond.fieldLink "java/lang/String" (15 : Nat) "java/lang/String" "coder" "B") ∈ TB := tb_in (i := 1319) (by decide +kernel) rfl
theorem mv_X0_weigh : uvMV yX0_weigh RX0 cX0_weigh 4 (Option.none : Option Jvm.ClassFile.FieldType) 1 := ⟨⟨tb_in (i := 810) (by decide +kernel) rfl, tb_in (i := 811) (by decide +kernel) rfl, wd_9, tb_in (i := 812) (by decide +kernel) rfl⟩, rfl, by decide +kernel⟩
theorem mv_X0_weighEntry : uvMV yX0_weighEntry RX0 cX0_weighEntry 9 (Option.none : Option Jvm.ClassFile.FieldType) 3 := ⟨⟨tb_in (i := 815) (by decide +kernel) rfl, tb_in (i := 27) (by decide +kernel) rfl, wd_9, tb_in (i := 816) (by decide +kernel) rfl⟩, rfl, by decide +kernel⟩
theorem mv_X0_trace : uvMV yX0_trace RX0 cX0_trace 3 (Option.none : Option Jvm.ClassFile.FieldType) 0 := ⟨⟨tb_in (i := 829) (by decide +kernel) rfl, tb_in (i := 830) (by decide +kernel) rfl, wd_9, tb_in (i := 831) (by decide +kernel) rfl⟩, rfl, by decide +kernel⟩
theorem mv_X0_leastPrice : uvMV yX0_leastPrice RX0 cX0_leastPrice 1 (Option.some Jvm.ClassFile.FieldType.int) 0 := ⟨⟨tb_in (i := 833) (by decide +kernel) rfl, tb_in (i := 834) (by decide +kernel) rfl, wd_9, tb_in (i := 835) (by decide +kernel) rfl⟩, rfl, by decide +kernel⟩
theorem mv_X0_secondPrice : uvMV yX0_secondPrice RX0 cX0_secondPrice 1 (Option.some Jvm.ClassFile.FieldType.int) 0 := ⟨⟨tb_in (i := 853) (by decide +kernel) rfl, tb_in (i := 854) (by decide +kernel) rfl, wd_9, tb_in (i := 855) (by decide +kernel) rfl⟩, rfl, by decide +kernel⟩
theorem mv_X0_mostPrice : uvMV yX0_mostPrice RX0 cX0_mostPrice 1 (Option.some Jvm.ClassFile.FieldType.int) 0 := ⟨⟨tb_in (i := 862) (by decide +kernel) rfl, tb_in (i := 863) (by decide +kernel) rfl, wd_9, tb_in (i := 864) (by decide +kernel) rfl⟩, rfl, by decide +kernel⟩
theorem mv_X0_waysOfLeast : uvMV yX0_waysOfLeast RX0 cX0_waysOfLeast 1 (Option.some Jvm.ClassFile.FieldType.int) 0 := ⟨⟨tb_in (i := 845) (by decide +kernel) rfl, tb_in (i := 846) (by decide +kernel) rfl, wd_9, tb_in (i := 847) (by decide +kernel) rfl⟩, rfl, by decide +kernel⟩
theorem mv_X0_pathFollowers : uvMV yX0_pathFollowers RX0 cX0_pathFollowers 4 (Option.some Jvm.ClassFile.FieldType.int) 1 := ⟨⟨tb_in (i := 874) (by decide +kernel) rfl, tb_in (i := 875) (by decide +kernel) rfl, wd_9, tb_in (i := 876) (by decide +kernel) rfl⟩, rfl, by decide +kernel⟩
theorem mv_X0_pathFits : uvMV yX0_pathFits RX0 cX0_pathFits 4 (Option.some Jvm.ClassFile.FieldType.int) 1 := ⟨⟨tb_in (i := 878) (by decide +kernel) rfl, tb_in (i := 879) (by decide +kernel) rfl, wd_9, tb_in (i := 880) (by decide +kernel) rfl⟩, rfl, by decide +kernel⟩
theorem mv_X0_pathJoints : uvMV yX0_pathJoints RX0 cX0_pathJoints 3 (Option.some Jvm.ClassFile.FieldType.int) 0 := ⟨⟨tb_in (i := 882) (by decide +kernel) rfl, tb_in (i := 883) (by decide +kernel) rfl, wd_9, tb_in (i := 884) (by decide +kernel) rfl⟩, rfl, by decide +kernel⟩
theorem mv_X0_dearestPathJoint : uvMV yX0_dearestPathJoint RX0 cX0_dearestPathJoint 3 (Option.some Jvm.ClassFile.FieldType.int) 0 := ⟨⟨tb_in (i := 886) (by decide +kernel) rfl, tb_in (i := 887) (by decide +kernel) rfl, wd_9, tb_in (i := 888) (by decide +kernel) rfl⟩, rfl, by decide +kernel⟩
theorem mv_X1_begin : uvMV yX1_begin RX1 cX1_begin 1 (Option.none : Option Jvm.ClassFile.FieldType) 0 := ⟨⟨tb_in (i := 730) (by decide +kernel) rfl, tb_in (i := 731) (by decide +kernel) rfl, wd_7, tb_in (i := 732) (by decide +kernel) rfl⟩, rfl, by decide +kernel⟩
theorem mv_X1_add : uvMV yX1_add RX1 cX1_add 2 (Option.none : Option Jvm.ClassFile.FieldType) 1 := ⟨⟨tb_in (i := 751) (by decide +kernel) rfl, tb_in (i := 752) (by decide +kernel) rfl, wd_7, tb_in (i := 753) (by decide +kernel) rfl⟩, rfl, by decide +kernel⟩
theorem mv_X1_miss : uvMV yX1_miss RX1 cX1_miss 1 (Option.none : Option Jvm.ClassFile.FieldType) 0 := ⟨⟨tb_in (i := 756) (by decide +kernel) rfl, tb_in (i := 757) (by decide +kernel) rfl, wd_7, tb_in (i := 758) (by decide +kernel) rfl⟩, rfl, by decide +kernel⟩
theorem mv_X1_isMissing : uvMV yX1_isMissing RX1 cX1_isMissing 1 (Option.some Jvm.ClassFile.FieldType.boolean) 0 := ⟨⟨tb_in (i := 760) (by decide +kernel) rfl, tb_in (i := 761) (by decide +kernel) rfl, wd_7, tb_in (i := 762) (by decide +kernel) rfl⟩, rfl, by decide +kernel⟩
theorem mv_X2_leafOfUnit : uvMV yX2_leafOfUnit RX2 cX2_leafOfUnit 2 (Option.some Jvm.ClassFile.FieldType.int) 1 := ⟨⟨tb_in (i := 673) (by decide +kernel) rfl, tb_in (i := 674) (by decide +kernel) rfl, wd_6, tb_in (i := 675) (by decide +kernel) rfl⟩, rfl, by decide +kernel⟩
theorem mv_X2_leafOfTarget : uvMV yX2_leafOfTarget RX2 cX2_leafOfTarget 2 (Option.some Jvm.ClassFile.FieldType.int) 1 := ⟨⟨tb_in (i := 699) (by decide +kernel) rfl, tb_in (i := 700) (by decide +kernel) rfl, wd_6, tb_in (i := 701) (by decide +kernel) rfl⟩, rfl, by decide +kernel⟩
theorem mv_X2_chooseAll : uvMV yX2_chooseAll RX2 cX2_chooseAll 3 (Option.some Jvm.ClassFile.FieldType.boolean) 1 := ⟨⟨tb_in (i := 805) (by decide +kernel) rfl, tb_in (i := 806) (by decide +kernel) rfl, wd_6, tb_in (i := 807) (by decide +kernel) rfl⟩, rfl, by decide +kernel⟩
theorem mv_X2_choose : uvMV yX2_choose RX2 cX2_choose 3 (Option.some (Jvm.ClassFile.FieldType.object "UnitVoices$Choice")) 2 := ⟨⟨tb_in (i := 717) (by decide +kernel) rfl, tb_in (i := 718) (by decide +kernel) rfl, wd_6, tb_in (i := 719) (by decide +kernel) rfl⟩, rfl, by decide +kernel⟩
theorem mv_X2_findLeaves : uvMV yX2_findLeaves RX2 cX2_findLeaves 2 (Option.none : Option Jvm.ClassFile.FieldType) 0 := ⟨⟨tb_in (i := 722) (by decide +kernel) rfl, tb_in (i := 21) (by decide +kernel) rfl, wd_6, tb_in (i := 723) (by decide +kernel) rfl⟩, rfl, by decide +kernel⟩
theorem mv_X2_chooseFor : uvMV yX2_chooseFor RX2 cX2_chooseFor 8 (Option.none : Option Jvm.ClassFile.FieldType) 2 := ⟨⟨tb_in (i := 727) (by decide +kernel) rfl, tb_in (i := 22) (by decide +kernel) rfl, wd_6, tb_in (i := 728) (by decide +kernel) rfl⟩, rfl, by decide +kernel⟩
theorem mv_X2_climb : uvMV yX2_climb RX2 cX2_climb 7 (Option.none : Option Jvm.ClassFile.FieldType) 4 := ⟨⟨tb_in (i := 736) (by decide +kernel) rfl, tb_in (i := 23) (by decide +kernel) rfl, wd_6, tb_in (i := 737) (by decide +kernel) rfl⟩, rfl, by decide +kernel⟩
theorem mv_X2_gather : uvMV yX2_gather RX2 cX2_gather 6 (Option.none : Option Jvm.ClassFile.FieldType) 4 := ⟨⟨tb_in (i := 740) (by decide +kernel) rfl, tb_in (i := 24) (by decide +kernel) rfl, wd_6, tb_in (i := 741) (by decide +kernel) rfl⟩, rfl, by decide +kernel⟩
theorem mv_X3_ofFit : uvMV yX3_ofFit RX3 cX3_ofFit 6 (Option.some Jvm.ClassFile.FieldType.int) 3 := ⟨⟨tb_in (i := 776) (by decide +kernel) rfl, tb_in (i := 777) (by decide +kernel) rfl, wd_8, tb_in (i := 778) (by decide +kernel) rfl⟩, rfl, by decide +kernel⟩
theorem mv_X3_besidePart : uvMV yX3_besidePart RX3 cX3_besidePart 5 (Option.some Jvm.ClassFile.FieldType.int) 2 := ⟨⟨tb_in (i := 784) (by decide +kernel) rfl, tb_in (i := 25) (by decide +kernel) rfl, wd_8, tb_in (i := 785) (by decide +kernel) rfl⟩, rfl, by decide +kernel⟩
theorem mv_X3_ofJoint : uvMV yX3_ofJoint RX3 cX3_ofJoint 5 (Option.some Jvm.ClassFile.FieldType.int) 2 := ⟨⟨tb_in (i := 793) (by decide +kernel) rfl, tb_in (i := 794) (by decide +kernel) rfl, wd_8, tb_in (i := 795) (by decide +kernel) rfl⟩, rfl, by decide +kernel⟩
theorem mv_X4_add : uvMV yX4_add RX4 cX4_add 4 (Option.none : Option Jvm.ClassFile.FieldType) 3 := ⟨⟨tb_in (i := 597) (by decide +kernel) rfl, tb_in (i := 598) (by decide +kernel) rfl, wd_3, tb_in (i := 599) (by decide +kernel) rfl⟩, rfl, by decide +kernel⟩
theorem mv_X4_become : uvMV yX4_become RX4 cX4_become 3 (Option.none : Option Jvm.ClassFile.FieldType) 1 := ⟨⟨tb_in (i := 639) (by decide +kernel) rfl, tb_in (i := 640) (by decide +kernel) rfl, wd_3, tb_in (i := 641) (by decide +kernel) rfl⟩, rfl, by decide +kernel⟩
theorem mv_X4_leftOf : uvMV yX4_leftOf RX4 cX4_leftOf 2 (Option.some Jvm.ClassFile.FieldType.int) 1 := ⟨⟨tb_in (i := 657) (by decide +kernel) rfl, tb_in (i := 658) (by decide +kernel) rfl, wd_3, tb_in (i := 659) (by decide +kernel) rfl⟩, rfl, by decide +kernel⟩
theorem mv_X4_rightOf : uvMV yX4_rightOf RX4 cX4_rightOf 2 (Option.some Jvm.ClassFile.FieldType.int) 1 := ⟨⟨tb_in (i := 661) (by decide +kernel) rfl, tb_in (i := 662) (by decide +kernel) rfl, wd_3, tb_in (i := 663) (by decide +kernel) rfl⟩, rfl, by decide +kernel⟩
theorem mv_X5_begin : uvMV yX5_begin RX5 cX5_begin 2 (Option.none : Option Jvm.ClassFile.FieldType) 1 := ⟨⟨tb_in (i := 369) (by decide +kernel) rfl, tb_in (i := 370) (by decide +kernel) rfl, wd_10, tb_in (i := 371) (by decide +kernel) rfl⟩, rfl, by decide +kernel⟩
theorem mv_X5_end : uvMV yX5_end RX5 cX5_end 2 (Option.none : Option Jvm.ClassFile.FieldType) 1 := ⟨⟨tb_in (i := 365) (by decide +kernel) rfl, tb_in (i := 366) (by decide +kernel) rfl, wd_10, tb_in (i := 367) (by decide +kernel) rfl⟩, rfl, by decide +kernel⟩
theorem mv_X5_offer : uvMV yX5_offer RX5 cX5_offer 6 (Option.none : Option Jvm.ClassFile.FieldType) 4 := ⟨⟨tb_in (i := 820) (by decide +kernel) rfl, tb_in (i := 821) (by decide +kernel) rfl, wd_10, tb_in (i := 822) (by decide +kernel) rfl⟩, rfl, by decide +kernel⟩
theorem mv_X6_add : uvMV yX6_add RX6 cX6_add 2 (Option.none : Option Jvm.ClassFile.FieldType) 1 := ⟨⟨tb_in (i := 503) (by decide +kernel) rfl, tb_in (i := 504) (by decide +kernel) rfl, wd_5, tb_in (i := 505) (by decide +kernel) rfl⟩, rfl, by decide +kernel⟩
theorem mv_X6_read : uvMV yX6_read RX6 cX6_read 2 (Option.some Jvm.ClassFile.FieldType.int) 0 := ⟨⟨tb_in (i := 515) (by decide +kernel) rfl, tb_in (i := 516) (by decide +kernel) rfl, wd_5, tb_in (i := 517) (by decide +kernel) rfl⟩, rfl, by decide +kernel⟩
theorem mv_X6_readRow : uvMV yX6_readRow RX6 cX6_readRow 3 (Option.none : Option Jvm.ClassFile.FieldType) 0 := ⟨⟨tb_in (i := 528) (by decide +kernel) rfl, tb_in (i := 5) (by decide +kernel) rfl, wd_5, tb_in (i := 529) (by decide +kernel) rfl⟩, rfl, by decide +kernel⟩
theorem mv_X6_readTarget : uvMV yX6_readTarget RX6 cX6_readTarget 4 (Option.none : Option Jvm.ClassFile.FieldType) 1 := ⟨⟨tb_in (i := 590) (by decide +kernel) rfl, tb_in (i := 8) (by decide +kernel) rfl, wd_5, tb_in (i := 591) (by decide +kernel) rfl⟩, rfl, by decide +kernel⟩
theorem mv_X6_readTree : uvMV yX6_readTree RX6 cX6_readTree 1 (Option.none : Option Jvm.ClassFile.FieldType) 0 := ⟨⟨tb_in (i := 602) (by decide +kernel) rfl, tb_in (i := 10) (by decide +kernel) rfl, wd_5, tb_in (i := 603) (by decide +kernel) rfl⟩, rfl, by decide +kernel⟩
theorem mv_X6_readNode : uvMV yX6_readNode RX6 cX6_readNode 6 (Option.some Jvm.ClassFile.FieldType.int) 2 := ⟨⟨tb_in (i := 607) (by decide +kernel) rfl, tb_in (i := 11) (by decide +kernel) rfl, wd_5, tb_in (i := 608) (by decide +kernel) rfl⟩, rfl, by decide +kernel⟩
theorem mv_X6_readBranches : uvMV yX6_readBranches RX6 cX6_readBranches 5 (Option.some Jvm.ClassFile.FieldType.int) 2 := ⟨⟨tb_in (i := 620) (by decide +kernel) rfl, tb_in (i := 12) (by decide +kernel) rfl, wd_5, tb_in (i := 621) (by decide +kernel) rfl⟩, rfl, by decide +kernel⟩
theorem ms_X6_isQuestion : uvMS yX6_isQuestion cX6_isQuestion 1 (Option.some Jvm.ClassFile.FieldType.boolean) 1 := ⟨⟨tb_in (i := 611) (by decide +kernel) rfl, wd_5, tb_in (i := 612) (by decide +kernel) rfl⟩, by decide +kernel⟩
theorem mv_X6_readEnd : uvMV yX6_readEnd RX6 cX6_readEnd 1 (Option.none : Option Jvm.ClassFile.FieldType) 0 := ⟨⟨tb_in (i := 636) (by decide +kernel) rfl, tb_in (i := 15) (by decide +kernel) rfl, wd_5, tb_in (i := 637) (by decide +kernel) rfl⟩, rfl, by decide +kernel⟩
theorem mv_X6_readWord : uvMV yX6_readWord RX6 cX6_readWord 4 (Option.some Jvm.ClassFile.FieldType.boolean) 1 := ⟨⟨tb_in (i := 533) (by decide +kernel) rfl, tb_in (i := 6) (by decide +kernel) rfl, wd_5, tb_in (i := 534) (by decide +kernel) rfl⟩, rfl, by decide +kernel⟩
theorem mv_X6_readFigure : uvMV yX6_readFigure RX6 cX6_readFigure 4 (Option.some Jvm.ClassFile.FieldType.int) 2 := ⟨⟨tb_in (i := 594) (by decide +kernel) rfl, tb_in (i := 9) (by decide +kernel) rfl, wd_5, tb_in (i := 595) (by decide +kernel) rfl⟩, rfl, by decide +kernel⟩
theorem mv_X6_readSign : uvMV yX6_readSign RX6 cX6_readSign 2 (Option.some Jvm.ClassFile.FieldType.boolean) 1 := ⟨⟨tb_in (i := 624) (by decide +kernel) rfl, tb_in (i := 13) (by decide +kernel) rfl, wd_5, tb_in (i := 625) (by decide +kernel) rfl⟩, rfl, by decide +kernel⟩
theorem mv_X6_look : uvMV yX6_look RX6 cX6_look 1 (Option.some Jvm.ClassFile.FieldType.int) 0 := ⟨⟨tb_in (i := 524) (by decide +kernel) rfl, tb_in (i := 4) (by decide +kernel) rfl, wd_5, tb_in (i := 525) (by decide +kernel) rfl⟩, rfl, by decide +kernel⟩
theorem mv_X6_fail : uvMV yX6_fail RX6 cX6_fail 1 (Option.some Jvm.ClassFile.FieldType.int) 0 := ⟨⟨tb_in (i := 547) (by decide +kernel) rfl, tb_in (i := 7) (by decide +kernel) rfl, wd_5, tb_in (i := 548) (by decide +kernel) rfl⟩, rfl, by decide +kernel⟩
theorem mv_X7_removeAll : uvMV yX7_removeAll RX7 cX7_removeAll 1 (Option.none : Option Jvm.ClassFile.FieldType) 0 := ⟨⟨tb_in (i := 519) (by decide +kernel) rfl, tb_in (i := 520) (by decide +kernel) rfl, wd_4, tb_in (i := 521) (by decide +kernel) rfl⟩, rfl, by decide +kernel⟩
theorem mv_X7_addLeaf : uvMV yX7_addLeaf RX7 cX7_addLeaf 3 (Option.some Jvm.ClassFile.FieldType.int) 1 := ⟨⟨tb_in (i := 186) (by decide +kernel) rfl, tb_in (i := 187) (by decide +kernel) rfl, wd_4, tb_in (i := 188) (by decide +kernel) rfl⟩, rfl, by decide +kernel⟩
theorem mv_X7_addQuestion : uvMV yX7_addQuestion RX7 cX7_addQuestion 5 (Option.some Jvm.ClassFile.FieldType.int) 4 := ⟨⟨tb_in (i := 614) (by decide +kernel) rfl, tb_in (i := 615) (by decide +kernel) rfl, wd_4, tb_in (i := 616) (by decide +kernel) rfl⟩, rfl, by decide +kernel⟩
theorem mv_X7_addNode : uvMV yX7_addNode RX7 cX7_addNode 5 (Option.some Jvm.ClassFile.FieldType.int) 3 := ⟨⟨tb_in (i := 191) (by decide +kernel) rfl, tb_in (i := 0) (by decide +kernel) rfl, wd_4, tb_in (i := 192) (by decide +kernel) rfl⟩, rfl, by decide +kernel⟩
theorem mv_X7_putBranches : uvMV yX7_putBranches RX7 cX7_putBranches 4 (Option.none : Option Jvm.ClassFile.FieldType) 3 := ⟨⟨tb_in (i := 627) (by decide +kernel) rfl, tb_in (i := 628) (by decide +kernel) rfl, wd_4, tb_in (i := 629) (by decide +kernel) rfl⟩, rfl, by decide +kernel⟩
theorem mv_X7_become : uvMV yX7_become RX7 cX7_become 3 (Option.none : Option Jvm.ClassFile.FieldType) 1 := ⟨⟨tb_in (i := 644) (by decide +kernel) rfl, tb_in (i := 645) (by decide +kernel) rfl, wd_4, tb_in (i := 646) (by decide +kernel) rfl⟩, rfl, by decide +kernel⟩
theorem mv_X7_leafFor : uvMV yX7_leafFor RX7 cX7_leafFor 8 (Option.some Jvm.ClassFile.FieldType.int) 4 := ⟨⟨tb_in (i := 677) (by decide +kernel) rfl, tb_in (i := 678) (by decide +kernel) rfl, wd_4, tb_in (i := 679) (by decide +kernel) rfl⟩, rfl, by decide +kernel⟩
theorem mv_X7_saysYes : uvMV yX7_saysYes RX7 cX7_saysYes 6 (Option.some Jvm.ClassFile.FieldType.boolean) 5 := ⟨⟨tb_in (i := 682) (by decide +kernel) rfl, tb_in (i := 18) (by decide +kernel) rfl, wd_4, tb_in (i := 683) (by decide +kernel) rfl⟩, rfl, by decide +kernel⟩
theorem mv_X7_liesUnder : uvMV yX7_liesUnder RX7 cX7_liesUnder 5 (Option.some Jvm.ClassFile.FieldType.boolean) 2 := ⟨⟨tb_in (i := 743) (by decide +kernel) rfl, tb_in (i := 744) (by decide +kernel) rfl, wd_4, tb_in (i := 745) (by decide +kernel) rfl⟩, rfl, by decide +kernel⟩
theorem mv_X7_nodeAbove : uvMV yX7_nodeAbove RX7 cX7_nodeAbove 2 (Option.some Jvm.ClassFile.FieldType.int) 1 := ⟨⟨tb_in (i := 747) (by decide +kernel) rfl, tb_in (i := 748) (by decide +kernel) rfl, wd_4, tb_in (i := 749) (by decide +kernel) rfl⟩, rfl, by decide +kernel⟩
theorem mv_X7_numberOf : uvMV yX7_numberOf RX7 cX7_numberOf 2 (Option.some Jvm.ClassFile.FieldType.int) 1 := ⟨⟨tb_in (i := 685) (by decide +kernel) rfl, tb_in (i := 686) (by decide +kernel) rfl, wd_4, tb_in (i := 687) (by decide +kernel) rfl⟩, rfl, by decide +kernel⟩
theorem mv_X7_isNode : uvMV yX7_isNode RX7 cX7_isNode 2 (Option.some Jvm.ClassFile.FieldType.boolean) 1 := ⟨⟨tb_in (i := 632) (by decide +kernel) rfl, tb_in (i := 14) (by decide +kernel) rfl, wd_4, tb_in (i := 633) (by decide +kernel) rfl⟩, rfl, by decide +kernel⟩
theorem mv_X8_removeAll : uvMV yX8_removeAll RX8 cX8_removeAll 2 (Option.none : Option Jvm.ClassFile.FieldType) 0 := ⟨⟨tb_in (i := 95) (by decide +kernel) rfl, tb_in (i := 96) (by decide +kernel) rfl, wd_2, tb_in (i := 97) (by decide +kernel) rfl⟩, rfl, by decide +kernel⟩
theorem mv_X8_add : uvMV yX8_add RX8 cX8_add 9 (Option.some Jvm.ClassFile.FieldType.int) 6 := ⟨⟨tb_in (i := 455) (by decide +kernel) rfl, tb_in (i := 456) (by decide +kernel) rfl, wd_2, tb_in (i := 457) (by decide +kernel) rfl⟩, rfl, by decide +kernel⟩
theorem mv_X8_putRight : uvMV yX8_putRight RX8 cX8_putRight 3 (Option.none : Option Jvm.ClassFile.FieldType) 2 := ⟨⟨tb_in (i := 474) (by decide +kernel) rfl, tb_in (i := 475) (by decide +kernel) rfl, wd_2, tb_in (i := 476) (by decide +kernel) rfl⟩, rfl, by decide +kernel⟩
theorem mv_X9_unit : uvMV yX9_unit RX9 cX9_unit 7 (Option.some Jvm.ClassFile.FieldType.int) 6 := ⟨⟨tb_in (i := 434) (by decide +kernel) rfl, tb_in (i := 435) (by decide +kernel) rfl, wd_1, tb_in (i := 436) (by decide +kernel) rfl⟩, rfl, by decide +kernel⟩
theorem mv_X9_records : uvMV yX9_records RX9 cX9_records 12 (Option.some Jvm.ClassFile.FieldType.int) 3 := ⟨⟨tb_in (i := 460) (by decide +kernel) rfl, tb_in (i := 461) (by decide +kernel) rfl, wd_1, tb_in (i := 462) (by decide +kernel) rfl⟩, rfl, by decide +kernel⟩
theorem mv_X9_of : uvMV yX9_of RX9 cX9_of 3 (Option.some Jvm.ClassFile.FieldType.int) 2 := ⟨⟨tb_in (i := 478) (by decide +kernel) rfl, tb_in (i := 479) (by decide +kernel) rfl, wd_1, tb_in (i := 480) (by decide +kernel) rfl⟩, rfl, by decide +kernel⟩
theorem mv_X9_empties : uvMV yX9_empties RX9 cX9_empties 2 (Option.some Jvm.ClassFile.FieldType.int) 0 := ⟨⟨tb_in (i := 486) (by decide +kernel) rfl, tb_in (i := 487) (by decide +kernel) rfl, wd_1, tb_in (i := 488) (by decide +kernel) rfl⟩, rfl, by decide +kernel⟩
theorem mv_X9_other : uvMV yX9_other RX9 cX9_other 4 (Option.some Jvm.ClassFile.FieldType.int) 2 := ⟨⟨tb_in (i := 491) (by decide +kernel) rfl, tb_in (i := 492) (by decide +kernel) rfl, wd_1, tb_in (i := 493) (by decide +kernel) rfl⟩, rfl, by decide +kernel⟩
theorem mv_X9_fitter : uvMV yX9_fitter RX9 cX9_fitter 3 (Option.some Jvm.ClassFile.FieldType.int) 1 := ⟨⟨tb_in (i := 495) (by decide +kernel) rfl, tb_in (i := 496) (by decide +kernel) rfl, wd_1, tb_in (i := 497) (by decide +kernel) rfl⟩, rfl, by decide +kernel⟩
theorem mv_X9_type : uvMV yX9_type RX9 cX9_type 2 (Option.some Jvm.ClassFile.FieldType.int) 1 := ⟨⟨tb_in (i := 499) (by decide +kernel) rfl, tb_in (i := 500) (by decide +kernel) rfl, wd_1, tb_in (i := 501) (by decide +kernel) rfl⟩, rfl, by decide +kernel⟩
theorem mv_X9_clear : uvMV yX9_clear RX9 cX9_clear 2 (Option.some Jvm.ClassFile.FieldType.int) 0 := ⟨⟨tb_in (i := 507) (by decide +kernel) rfl, tb_in (i := 508) (by decide +kernel) rfl, wd_1, tb_in (i := 509) (by decide +kernel) rfl⟩, rfl, by decide +kernel⟩
theorem mv_X9_reads : uvMV yX9_reads RX9 cX9_reads 2 (Option.some Jvm.ClassFile.FieldType.int) 0 := ⟨⟨tb_in (i := 511) (by decide +kernel) rfl, tb_in (i := 512) (by decide +kernel) rfl, wd_1, tb_in (i := 513) (by decide +kernel) rfl⟩, rfl, by decide +kernel⟩
theorem mv_X9_target : uvMV yX9_target RX9 cX9_target 3 (Option.some Jvm.ClassFile.FieldType.int) 2 := ⟨⟨tb_in (i := 649) (by decide +kernel) rfl, tb_in (i := 650) (by decide +kernel) rfl, wd_1, tb_in (i := 651) (by decide +kernel) rfl⟩, rfl, by decide +kernel⟩
theorem mv_X9_tree : uvMV yX9_tree RX9 cX9_tree 2 (Option.some Jvm.ClassFile.FieldType.int) 1 := ⟨⟨tb_in (i := 665) (by decide +kernel) rfl, tb_in (i := 666) (by decide +kernel) rfl, wd_1, tb_in (i := 667) (by decide +kernel) rfl⟩, rfl, by decide +kernel⟩
theorem mv_X9_leaf : uvMV yX9_leaf RX9 cX9_leaf 3 (Option.some Jvm.ClassFile.FieldType.int) 2 := ⟨⟨tb_in (i := 695) (by decide +kernel) rfl, tb_in (i := 696) (by decide +kernel) rfl, wd_1, tb_in (i := 697) (by decide +kernel) rfl⟩, rfl, by decide +kernel⟩
theorem mv_X9_choice : uvMV yX9_choice RX9 cX9_choice 4 (Option.some Jvm.ClassFile.FieldType.int) 2 := ⟨⟨tb_in (i := 705) (by decide +kernel) rfl, tb_in (i := 706) (by decide +kernel) rfl, wd_1, tb_in (i := 707) (by decide +kernel) rfl⟩, rfl, by decide +kernel⟩
theorem mv_X9_steps : uvMV yX9_steps RX9 cX9_steps 2 (Option.some Jvm.ClassFile.FieldType.int) 1 := ⟨⟨tb_in (i := 764) (by decide +kernel) rfl, tb_in (i := 765) (by decide +kernel) rfl, wd_1, tb_in (i := 766) (by decide +kernel) rfl⟩, rfl, by decide +kernel⟩
theorem mv_X9_tried : uvMV yX9_tried RX9 cX9_tried 2 (Option.some Jvm.ClassFile.FieldType.int) 1 := ⟨⟨tb_in (i := 768) (by decide +kernel) rfl, tb_in (i := 769) (by decide +kernel) rfl, wd_1, tb_in (i := 770) (by decide +kernel) rfl⟩, rfl, by decide +kernel⟩
theorem mv_X9_fit : uvMV yX9_fit RX9 cX9_fit 3 (Option.some Jvm.ClassFile.FieldType.int) 2 := ⟨⟨tb_in (i := 772) (by decide +kernel) rfl, tb_in (i := 773) (by decide +kernel) rfl, wd_1, tb_in (i := 774) (by decide +kernel) rfl⟩, rfl, by decide +kernel⟩
theorem mv_X9_joint : uvMV yX9_joint RX9 cX9_joint 3 (Option.some Jvm.ClassFile.FieldType.int) 2 := ⟨⟨tb_in (i := 789) (by decide +kernel) rfl, tb_in (i := 790) (by decide +kernel) rfl, wd_1, tb_in (i := 791) (by decide +kernel) rfl⟩, rfl, by decide +kernel⟩
theorem mv_X9_cost : uvMV yX9_cost RX9 cX9_cost 1 (Option.some Jvm.ClassFile.FieldType.int) 0 := ⟨⟨tb_in (i := 797) (by decide +kernel) rfl, tb_in (i := 798) (by decide +kernel) rfl, wd_1, tb_in (i := 799) (by decide +kernel) rfl⟩, rfl, by decide +kernel⟩
theorem mv_X9_chain : uvMV yX9_chain RX9 cX9_chain 2 (Option.some Jvm.ClassFile.FieldType.int) 1 := ⟨⟨tb_in (i := 837) (by decide +kernel) rfl, tb_in (i := 838) (by decide +kernel) rfl, wd_1, tb_in (i := 839) (by decide +kernel) rfl⟩, rfl, by decide +kernel⟩
theorem mv_X9_ways : uvMV yX9_ways RX9 cX9_ways 1 (Option.some Jvm.ClassFile.FieldType.int) 0 := ⟨⟨tb_in (i := 841) (by decide +kernel) rfl, tb_in (i := 842) (by decide +kernel) rfl, wd_1, tb_in (i := 843) (by decide +kernel) rfl⟩, rfl, by decide +kernel⟩
theorem mv_X9_next : uvMV yX9_next RX9 cX9_next 1 (Option.some Jvm.ClassFile.FieldType.int) 0 := ⟨⟨tb_in (i := 849) (by decide +kernel) rfl, tb_in (i := 850) (by decide +kernel) rfl, wd_1, tb_in (i := 851) (by decide +kernel) rfl⟩, rfl, by decide +kernel⟩
theorem mv_X9_dearest : uvMV yX9_dearest RX9 cX9_dearest 1 (Option.some Jvm.ClassFile.FieldType.int) 0 := ⟨⟨tb_in (i := 858) (by decide +kernel) rfl, tb_in (i := 859) (by decide +kernel) rfl, wd_1, tb_in (i := 860) (by decide +kernel) rfl⟩, rfl, by decide +kernel⟩
theorem mv_X9_without : uvMV yX9_without RX9 cX9_without 2 (Option.some Jvm.ClassFile.FieldType.int) 1 := ⟨⟨tb_in (i := 866) (by decide +kernel) rfl, tb_in (i := 867) (by decide +kernel) rfl, wd_1, tb_in (i := 868) (by decide +kernel) rfl⟩, rfl, by decide +kernel⟩
theorem mv_X9_about : uvMV yX9_about RX9 cX9_about 2 (Option.some Jvm.ClassFile.FieldType.int) 1 := ⟨⟨tb_in (i := 870) (by decide +kernel) rfl, tb_in (i := 871) (by decide +kernel) rfl, wd_1, tb_in (i := 872) (by decide +kernel) rfl⟩, rfl, by decide +kernel⟩
theorem mv_X9_cheapest : uvMV yX9_cheapest RX9 cX9_cheapest 5 (Option.some Jvm.ClassFile.FieldType.int) 1 := ⟨⟨tb_in (i := 891) (by decide +kernel) rfl, tb_in (i := 892) (by decide +kernel) rfl, wd_1, tb_in (i := 893) (by decide +kernel) rfl⟩, rfl, by decide +kernel⟩
theorem mv_X9_told : uvMV yX9_told RX9 cX9_told 2 (Option.some Jvm.ClassFile.FieldType.int) 1 := ⟨⟨tb_in (i := 896) (by decide +kernel) rfl, tb_in (i := 897) (by decide +kernel) rfl, wd_1, tb_in (i := 898) (by decide +kernel) rfl⟩, rfl, by decide +kernel⟩
theorem mv_X9_digest : uvMV yX9_digest RX9 cX9_digest 5 (Option.some Jvm.ClassFile.FieldType.long) 0 := ⟨⟨tb_in (i := 900) (by decide +kernel) rfl, tb_in (i := 901) (by decide +kernel) rfl, wd_1, tb_in (i := 902) (by decide +kernel) rfl⟩, rfl, by decide +kernel⟩
theorem mv_X9_findChain : uvMV yX9_findChain RX9 cX9_findChain 2 (Option.some Jvm.ClassFile.FieldType.boolean) 1 := ⟨⟨tb_in (i := 802) (by decide +kernel) rfl, tb_in (i := 26) (by decide +kernel) rfl, wd_1, tb_in (i := 803) (by decide +kernel) rfl⟩, rfl, by decide +kernel⟩
theorem mv_X9_emptyLeaves : uvMV yX9_emptyLeaves RX9 cX9_emptyLeaves 4 (Option.some Jvm.ClassFile.FieldType.int) 0 := ⟨⟨tb_in (i := 670) (by decide +kernel) rfl, tb_in (i := 17) (by decide +kernel) rfl, wd_1, tb_in (i := 671) (by decide +kernel) rfl⟩, rfl, by decide +kernel⟩
theorem mv_X9_isUnit : uvMV yX9_isUnit RX9 cX9_isUnit 2 (Option.some Jvm.ClassFile.FieldType.boolean) 1 := ⟨⟨tb_in (i := 483) (by decide +kernel) rfl, tb_in (i := 3) (by decide +kernel) rfl, wd_1, tb_in (i := 484) (by decide +kernel) rfl⟩, rfl, by decide +kernel⟩
theorem mv_X9_isTarget : uvMV yX9_isTarget RX9 cX9_isTarget 2 (Option.some Jvm.ClassFile.FieldType.boolean) 1 := ⟨⟨tb_in (i := 654) (by decide +kernel) rfl, tb_in (i := 16) (by decide +kernel) rfl, wd_1, tb_in (i := 655) (by decide +kernel) rfl⟩, rfl, by decide +kernel⟩
theorem mv_X9_isPlace : uvMV yX9_isPlace RX9 cX9_isPlace 2 (Option.some Jvm.ClassFile.FieldType.boolean) 1 := ⟨⟨tb_in (i := 710) (by decide +kernel) rfl, tb_in (i := 19) (by decide +kernel) rfl, wd_1, tb_in (i := 711) (by decide +kernel) rfl⟩, rfl, by decide +kernel⟩
theorem ms_X9_isSound : uvMS yX9_isSound cX9_isSound 1 (Option.some Jvm.ClassFile.FieldType.boolean) 1 := ⟨⟨tb_in (i := 438) (by decide +kernel) rfl, wd_1, tb_in (i := 439) (by decide +kernel) rfl⟩, by decide +kernel⟩
theorem ms_X9_isTake : uvMS yX9_isTake cX9_isTake 1 (Option.some Jvm.ClassFile.FieldType.boolean) 1 := ⟨⟨tb_in (i := 444) (by decide +kernel) rfl, wd_1, tb_in (i := 445) (by decide +kernel) rfl⟩, by decide +kernel⟩
theorem ms_X9_within : uvMS yX9_within cX9_within 3 (Option.some Jvm.ClassFile.FieldType.boolean) 3 := ⟨⟨tb_in (i := 441) (by decide +kernel) rfl, wd_1, tb_in (i := 442) (by decide +kernel) rfl⟩, by decide +kernel⟩
theorem mv_X9_bad : uvMV yX9_bad RX9 cX9_bad 1 (Option.some Jvm.ClassFile.FieldType.int) 0 := ⟨⟨tb_in (i := 448) (by decide +kernel) rfl, tb_in (i := 1) (by decide +kernel) rfl, wd_1, tb_in (i := 449) (by decide +kernel) rfl⟩, rfl, by decide +kernel⟩
theorem mv_X9_no : uvMV yX9_no RX9 cX9_no 1 (Option.some Jvm.ClassFile.FieldType.int) 0 := ⟨⟨tb_in (i := 714) (by decide +kernel) rfl, tb_in (i := 20) (by decide +kernel) rfl, wd_1, tb_in (i := 715) (by decide +kernel) rfl⟩, rfl, by decide +kernel⟩
theorem mv_X9_full : uvMV yX9_full RX9 cX9_full 1 (Option.some Jvm.ClassFile.FieldType.int) 0 := ⟨⟨tb_in (i := 452) (by decide +kernel) rfl, tb_in (i := 2) (by decide +kernel) rfl, wd_1, tb_in (i := 453) (by decide +kernel) rfl⟩, rfl, by decide +kernel⟩
theorem ms_X10_in : uvMS yX10_in cX10_in 6 (Option.some Jvm.ClassFile.FieldType.boolean) 3 := ⟨⟨tb_in (i := 1045) (by decide +kernel) rfl, wd_12, tb_in (i := 1046) (by decide +kernel) rfl⟩, by decide +kernel⟩
theorem mv_X10_bad : uvMV yX10_bad RX10 cX10_bad 2 (Option.some Jvm.ClassFile.FieldType.int) 1 := ⟨⟨tb_in (i := 1052) (by decide +kernel) rfl, tb_in (i := 28) (by decide +kernel) rfl, wd_12, tb_in (i := 1053) (by decide +kernel) rfl⟩, rfl, by decide +kernel⟩
theorem mv_X10_no : uvMV yX10_no RX10 cX10_no 1 (Option.some Jvm.ClassFile.FieldType.int) 0 := ⟨⟨tb_in (i := 1210) (by decide +kernel) rfl, tb_in (i := 51) (by decide +kernel) rfl, wd_12, tb_in (i := 1211) (by decide +kernel) rfl⟩, rfl, by decide +kernel⟩
theorem mv_X10_full : uvMV yX10_full RX10 cX10_full 1 (Option.some Jvm.ClassFile.FieldType.int) 0 := ⟨⟨tb_in (i := 1056) (by decide +kernel) rfl, tb_in (i := 29) (by decide +kernel) rfl, wd_12, tb_in (i := 1057) (by decide +kernel) rfl⟩, rfl, by decide +kernel⟩
theorem ms_X10_far : uvMS yX10_far cX10_far 2 (Option.some Jvm.ClassFile.FieldType.int) 2 := ⟨⟨tb_in (i := 1229) (by decide +kernel) rfl, wd_12, tb_in (i := 1230) (by decide +kernel) rfl⟩, by decide +kernel⟩
theorem mv_X10_at : uvMV yX10_at RX10 cX10_at 3 (Option.some Jvm.ClassFile.FieldType.int) 2 := ⟨⟨tb_in (i := 1072) (by decide +kernel) rfl, tb_in (i := 31) (by decide +kernel) rfl, wd_12, tb_in (i := 1073) (by decide +kernel) rfl⟩, rfl, by decide +kernel⟩
theorem mv_X10_isUnit : uvMV yX10_isUnit RX10 cX10_isUnit 2 (Option.some Jvm.ClassFile.FieldType.boolean) 1 := ⟨⟨tb_in (i := 1084) (by decide +kernel) rfl, tb_in (i := 32) (by decide +kernel) rfl, wd_12, tb_in (i := 1085) (by decide +kernel) rfl⟩, rfl, by decide +kernel⟩
theorem ms_X10_isSound : uvMS yX10_isSound cX10_isSound 1 (Option.some Jvm.ClassFile.FieldType.boolean) 1 := ⟨⟨tb_in (i := 1041) (by decide +kernel) rfl, wd_12, tb_in (i := 1042) (by decide +kernel) rfl⟩, by decide +kernel⟩
theorem mv_X10_lays : uvMV yX10_lays RX10 cX10_lays 8 (Option.none : Option Jvm.ClassFile.FieldType) 6 := ⟨⟨tb_in (i := 1060) (by decide +kernel) rfl, tb_in (i := 30) (by decide +kernel) rfl, wd_12, tb_in (i := 1061) (by decide +kernel) rfl⟩, rfl, by decide +kernel⟩
theorem mv_X10_unit : uvMV yX10_unit RX10 cX10_unit 7 (Option.some Jvm.ClassFile.FieldType.int) 6 := ⟨⟨tb_in (i := 1037) (by decide +kernel) rfl, tb_in (i := 1038) (by decide +kernel) rfl, wd_12, tb_in (i := 1039) (by decide +kernel) rfl⟩, rfl, by decide +kernel⟩
theorem mv_X10_records : uvMV yX10_records RX10 cX10_records 9 (Option.some Jvm.ClassFile.FieldType.int) 3 := ⟨⟨tb_in (i := 1063) (by decide +kernel) rfl, tb_in (i := 1064) (by decide +kernel) rfl, wd_12, tb_in (i := 1065) (by decide +kernel) rfl⟩, rfl, by decide +kernel⟩
theorem mv_X10_nextOf : uvMV yX10_nextOf RX10 cX10_nextOf 3 (Option.some Jvm.ClassFile.FieldType.int) 1 := ⟨⟨tb_in (i := 1088) (by decide +kernel) rfl, tb_in (i := 33) (by decide +kernel) rfl, wd_12, tb_in (i := 1089) (by decide +kernel) rfl⟩, rfl, by decide +kernel⟩
theorem mv_X10_of : uvMV yX10_of RX10 cX10_of 3 (Option.some Jvm.ClassFile.FieldType.int) 2 := ⟨⟨tb_in (i := 1079) (by decide +kernel) rfl, tb_in (i := 1080) (by decide +kernel) rfl, wd_12, tb_in (i := 1081) (by decide +kernel) rfl⟩, rfl, by decide +kernel⟩
theorem mv_X10_empties : uvMV yX10_empties RX10 cX10_empties 2 (Option.some Jvm.ClassFile.FieldType.int) 0 := ⟨⟨tb_in (i := 1091) (by decide +kernel) rfl, tb_in (i := 1092) (by decide +kernel) rfl, wd_12, tb_in (i := 1093) (by decide +kernel) rfl⟩, rfl, by decide +kernel⟩
theorem mv_X10_other : uvMV yX10_other RX10 cX10_other 4 (Option.some Jvm.ClassFile.FieldType.int) 2 := ⟨⟨tb_in (i := 1095) (by decide +kernel) rfl, tb_in (i := 1096) (by decide +kernel) rfl, wd_12, tb_in (i := 1097) (by decide +kernel) rfl⟩, rfl, by decide +kernel⟩
theorem mv_X10_fitter : uvMV yX10_fitter RX10 cX10_fitter 3 (Option.some Jvm.ClassFile.FieldType.int) 1 := ⟨⟨tb_in (i := 1099) (by decide +kernel) rfl, tb_in (i := 1100) (by decide +kernel) rfl, wd_12, tb_in (i := 1101) (by decide +kernel) rfl⟩, rfl, by decide +kernel⟩
theorem mv_X10_type : uvMV yX10_type RX10 cX10_type 2 (Option.some Jvm.ClassFile.FieldType.int) 1 := ⟨⟨tb_in (i := 1104) (by decide +kernel) rfl, tb_in (i := 1105) (by decide +kernel) rfl, wd_12, tb_in (i := 1106) (by decide +kernel) rfl⟩, rfl, by decide +kernel⟩
theorem mv_X10_clear : uvMV yX10_clear RX10 cX10_clear 2 (Option.some Jvm.ClassFile.FieldType.int) 0 := ⟨⟨tb_in (i := 1109) (by decide +kernel) rfl, tb_in (i := 1110) (by decide +kernel) rfl, wd_12, tb_in (i := 1111) (by decide +kernel) rfl⟩, rfl, by decide +kernel⟩
theorem mv_X10_here : uvMV yX10_here RX10 cX10_here 1 (Option.some Jvm.ClassFile.FieldType.int) 0 := ⟨⟨tb_in (i := 1122) (by decide +kernel) rfl, tb_in (i := 35) (by decide +kernel) rfl, wd_12, tb_in (i := 1123) (by decide +kernel) rfl⟩, rfl, by decide +kernel⟩
theorem mv_X10_takes : uvMV yX10_takes RX10 cX10_takes 4 (Option.some Jvm.ClassFile.FieldType.int) 2 := ⟨⟨tb_in (i := 1133) (by decide +kernel) rfl, tb_in (i := 37) (by decide +kernel) rfl, wd_12, tb_in (i := 1134) (by decide +kernel) rfl⟩, rfl, by decide +kernel⟩
theorem ms_X10_letterOf : uvMS yX10_letterOf cX10_letterOf 2 (Option.some Jvm.ClassFile.FieldType.int) 2 := ⟨⟨tb_in (i := 1125) (by decide +kernel) rfl, wd_12, tb_in (i := 1126) (by decide +kernel) rfl⟩, by decide +kernel⟩
theorem mv_X10_takesWord : uvMV yX10_takesWord RX10 cX10_takesWord 5 (Option.some Jvm.ClassFile.FieldType.int) 0 := ⟨⟨tb_in (i := 1118) (by decide +kernel) rfl, tb_in (i := 34) (by decide +kernel) rfl, wd_12, tb_in (i := 1119) (by decide +kernel) rfl⟩, rfl, by decide +kernel⟩
theorem mv_X10_readsRow : uvMV yX10_readsRow RX10 cX10_readsRow 5 (Option.some Jvm.ClassFile.FieldType.int) 0 := ⟨⟨tb_in (i := 1129) (by decide +kernel) rfl, tb_in (i := 36) (by decide +kernel) rfl, wd_12, tb_in (i := 1130) (by decide +kernel) rfl⟩, rfl, by decide +kernel⟩
theorem ms_X10_questionOf : uvMS yX10_questionOf cX10_questionOf 1 (Option.some Jvm.ClassFile.FieldType.int) 1 := ⟨⟨tb_in (i := 1140) (by decide +kernel) rfl, wd_12, tb_in (i := 1141) (by decide +kernel) rfl⟩, by decide +kernel⟩
theorem mv_X10_hangs : uvMV yX10_hangs RX10 cX10_hangs 3 (Option.none : Option Jvm.ClassFile.FieldType) 2 := ⟨⟨tb_in (i := 1144) (by decide +kernel) rfl, tb_in (i := 39) (by decide +kernel) rfl, wd_12, tb_in (i := 1145) (by decide +kernel) rfl⟩, rfl, by decide +kernel⟩
theorem mv_X10_readsTree : uvMV yX10_readsTree RX10 cX10_readsTree 7 (Option.some Jvm.ClassFile.FieldType.int) 0 := ⟨⟨tb_in (i := 1137) (by decide +kernel) rfl, tb_in (i := 38) (by decide +kernel) rfl, wd_12, tb_in (i := 1138) (by decide +kernel) rfl⟩, rfl, by decide +kernel⟩
theorem mv_X10_reads : uvMV yX10_reads RX10 cX10_reads 5 (Option.some Jvm.ClassFile.FieldType.int) 0 := ⟨⟨tb_in (i := 1113) (by decide +kernel) rfl, tb_in (i := 1114) (by decide +kernel) rfl, wd_12, tb_in (i := 1115) (by decide +kernel) rfl⟩, rfl, by decide +kernel⟩
theorem mv_X10_isTarget : uvMV yX10_isTarget RX10 cX10_isTarget 2 (Option.some Jvm.ClassFile.FieldType.boolean) 1 := ⟨⟨tb_in (i := 1152) (by decide +kernel) rfl, tb_in (i := 40) (by decide +kernel) rfl, wd_12, tb_in (i := 1153) (by decide +kernel) rfl⟩, rfl, by decide +kernel⟩
theorem mv_X10_targetLeft : uvMV yX10_targetLeft RX10 cX10_targetLeft 2 (Option.some Jvm.ClassFile.FieldType.int) 1 := ⟨⟨tb_in (i := 1156) (by decide +kernel) rfl, tb_in (i := 41) (by decide +kernel) rfl, wd_12, tb_in (i := 1157) (by decide +kernel) rfl⟩, rfl, by decide +kernel⟩
theorem mv_X10_targetRight : uvMV yX10_targetRight RX10 cX10_targetRight 2 (Option.some Jvm.ClassFile.FieldType.int) 1 := ⟨⟨tb_in (i := 1160) (by decide +kernel) rfl, tb_in (i := 42) (by decide +kernel) rfl, wd_12, tb_in (i := 1161) (by decide +kernel) rfl⟩, rfl, by decide +kernel⟩
theorem mv_X10_target : uvMV yX10_target RX10 cX10_target 3 (Option.some Jvm.ClassFile.FieldType.int) 2 := ⟨⟨tb_in (i := 1147) (by decide +kernel) rfl, tb_in (i := 1148) (by decide +kernel) rfl, wd_12, tb_in (i := 1149) (by decide +kernel) rfl⟩, rfl, by decide +kernel⟩
theorem mv_X10_answers : uvMV yX10_answers RX10 cX10_answers 7 (Option.some Jvm.ClassFile.FieldType.boolean) 5 := ⟨⟨tb_in (i := 1181) (by decide +kernel) rfl, tb_in (i := 46) (by decide +kernel) rfl, wd_12, tb_in (i := 1182) (by decide +kernel) rfl⟩, rfl, by decide +kernel⟩
theorem mv_X10_unitAnswers : uvMV yX10_unitAnswers RX10 cX10_unitAnswers 3 (Option.some Jvm.ClassFile.FieldType.boolean) 2 := ⟨⟨tb_in (i := 1177) (by decide +kernel) rfl, tb_in (i := 45) (by decide +kernel) rfl, wd_12, tb_in (i := 1178) (by decide +kernel) rfl⟩, rfl, by decide +kernel⟩
theorem mv_X10_targetAnswers : uvMV yX10_targetAnswers RX10 cX10_targetAnswers 3 (Option.some Jvm.ClassFile.FieldType.boolean) 2 := ⟨⟨tb_in (i := 1185) (by decide +kernel) rfl, tb_in (i := 47) (by decide +kernel) rfl, wd_12, tb_in (i := 1186) (by decide +kernel) rfl⟩, rfl, by decide +kernel⟩
theorem mv_X10_leafOf : uvMV yX10_leafOf RX10 cX10_leafOf 5 (Option.some Jvm.ClassFile.FieldType.int) 2 := ⟨⟨tb_in (i := 1173) (by decide +kernel) rfl, tb_in (i := 44) (by decide +kernel) rfl, wd_12, tb_in (i := 1174) (by decide +kernel) rfl⟩, rfl, by decide +kernel⟩
theorem mv_X10_emptyLeaves : uvMV yX10_emptyLeaves RX10 cX10_emptyLeaves 5 (Option.some Jvm.ClassFile.FieldType.int) 0 := ⟨⟨tb_in (i := 1169) (by decide +kernel) rfl, tb_in (i := 43) (by decide +kernel) rfl, wd_12, tb_in (i := 1170) (by decide +kernel) rfl⟩, rfl, by decide +kernel⟩
theorem mv_X10_tree : uvMV yX10_tree RX10 cX10_tree 2 (Option.some Jvm.ClassFile.FieldType.int) 1 := ⟨⟨tb_in (i := 1163) (by decide +kernel) rfl, tb_in (i := 1164) (by decide +kernel) rfl, wd_12, tb_in (i := 1165) (by decide +kernel) rfl⟩, rfl, by decide +kernel⟩
theorem mv_X10_leaf : uvMV yX10_leaf RX10 cX10_leaf 3 (Option.some Jvm.ClassFile.FieldType.int) 2 := ⟨⟨tb_in (i := 1188) (by decide +kernel) rfl, tb_in (i := 1189) (by decide +kernel) rfl, wd_12, tb_in (i := 1190) (by decide +kernel) rfl⟩, rfl, by decide +kernel⟩
theorem mv_X10_wayLong : uvMV yX10_wayLong RX10 cX10_wayLong 4 (Option.some Jvm.ClassFile.FieldType.int) 1 := ⟨⟨tb_in (i := 1202) (by decide +kernel) rfl, tb_in (i := 49) (by decide +kernel) rfl, wd_12, tb_in (i := 1203) (by decide +kernel) rfl⟩, rfl, by decide +kernel⟩
theorem mv_X10_goesAlong : uvMV yX10_goesAlong RX10 cX10_goesAlong 5 (Option.some Jvm.ClassFile.FieldType.int) 2 := ⟨⟨tb_in (i := 1206) (by decide +kernel) rfl, tb_in (i := 50) (by decide +kernel) rfl, wd_12, tb_in (i := 1207) (by decide +kernel) rfl⟩, rfl, by decide +kernel⟩
theorem mv_X10_chooses : uvMV yX10_chooses RX10 cX10_chooses 9 (Option.some Jvm.ClassFile.FieldType.boolean) 1 := ⟨⟨tb_in (i := 1198) (by decide +kernel) rfl, tb_in (i := 48) (by decide +kernel) rfl, wd_12, tb_in (i := 1199) (by decide +kernel) rfl⟩, rfl, by decide +kernel⟩
theorem mv_X10_choice : uvMV yX10_choice RX10 cX10_choice 3 (Option.some Jvm.ClassFile.FieldType.int) 2 := ⟨⟨tb_in (i := 1192) (by decide +kernel) rfl, tb_in (i := 1193) (by decide +kernel) rfl, wd_12, tb_in (i := 1194) (by decide +kernel) rfl⟩, rfl, by decide +kernel⟩
theorem mv_X10_steps : uvMV yX10_steps RX10 cX10_steps 2 (Option.some Jvm.ClassFile.FieldType.int) 1 := ⟨⟨tb_in (i := 1213) (by decide +kernel) rfl, tb_in (i := 1214) (by decide +kernel) rfl, wd_12, tb_in (i := 1215) (by decide +kernel) rfl⟩, rfl, by decide +kernel⟩
theorem mv_X10_tried : uvMV yX10_tried RX10 cX10_tried 3 (Option.some Jvm.ClassFile.FieldType.int) 1 := ⟨⟨tb_in (i := 1217) (by decide +kernel) rfl, tb_in (i := 1218) (by decide +kernel) rfl, wd_12, tb_in (i := 1219) (by decide +kernel) rfl⟩, rfl, by decide +kernel⟩
theorem mv_X10_fitAs : uvMV yX10_fitAs RX10 cX10_fitAs 7 (Option.some Jvm.ClassFile.FieldType.int) 3 := ⟨⟨tb_in (i := 1226) (by decide +kernel) rfl, tb_in (i := 52) (by decide +kernel) rfl, wd_12, tb_in (i := 1227) (by decide +kernel) rfl⟩, rfl, by decide +kernel⟩
theorem mv_X10_fit : uvMV yX10_fit RX10 cX10_fit 3 (Option.some Jvm.ClassFile.FieldType.int) 2 := ⟨⟨tb_in (i := 1221) (by decide +kernel) rfl, tb_in (i := 1222) (by decide +kernel) rfl, wd_12, tb_in (i := 1223) (by decide +kernel) rfl⟩, rfl, by decide +kernel⟩
theorem mv_X10_jointOf : uvMV yX10_jointOf RX10 cX10_jointOf 3 (Option.some Jvm.ClassFile.FieldType.int) 2 := ⟨⟨tb_in (i := 1237) (by decide +kernel) rfl, tb_in (i := 53) (by decide +kernel) rfl, wd_12, tb_in (i := 1238) (by decide +kernel) rfl⟩, rfl, by decide +kernel⟩
theorem mv_X10_joint : uvMV yX10_joint RX10 cX10_joint 3 (Option.some Jvm.ClassFile.FieldType.int) 2 := ⟨⟨tb_in (i := 1232) (by decide +kernel) rfl, tb_in (i := 1233) (by decide +kernel) rfl, wd_12, tb_in (i := 1234) (by decide +kernel) rfl⟩, rfl, by decide +kernel⟩
theorem mv_X10_begins : uvMV yX10_begins RX10 cX10_begins 1 (Option.none : Option Jvm.ClassFile.FieldType) 0 := ⟨⟨tb_in (i := 1253) (by decide +kernel) rfl, tb_in (i := 56) (by decide +kernel) rfl, wd_12, tb_in (i := 1254) (by decide +kernel) rfl⟩, rfl, by decide +kernel⟩
theorem mv_X10_offers : uvMV yX10_offers RX10 cX10_offers 2 (Option.none : Option Jvm.ClassFile.FieldType) 1 := ⟨⟨tb_in (i := 1261) (by decide +kernel) rfl, tb_in (i := 58) (by decide +kernel) rfl, wd_12, tb_in (i := 1262) (by decide +kernel) rfl⟩, rfl, by decide +kernel⟩
theorem mv_X10_takesIn : uvMV yX10_takesIn RX10 cX10_takesIn 7 (Option.none : Option Jvm.ClassFile.FieldType) 2 := ⟨⟨tb_in (i := 1257) (by decide +kernel) rfl, tb_in (i := 57) (by decide +kernel) rfl, wd_12, tb_in (i := 1258) (by decide +kernel) rfl⟩, rfl, by decide +kernel⟩
theorem mv_X10_chains : uvMV yX10_chains RX10 cX10_chains 10 (Option.some Jvm.ClassFile.FieldType.boolean) 1 := ⟨⟨tb_in (i := 1249) (by decide +kernel) rfl, tb_in (i := 55) (by decide +kernel) rfl, wd_12, tb_in (i := 1250) (by decide +kernel) rfl⟩, rfl, by decide +kernel⟩
theorem mv_X10_layChain : uvMV yX10_layChain RX10 cX10_layChain 7 (Option.none : Option Jvm.ClassFile.FieldType) 0 := ⟨⟨tb_in (i := 1271) (by decide +kernel) rfl, tb_in (i := 59) (by decide +kernel) rfl, wd_12, tb_in (i := 1272) (by decide +kernel) rfl⟩, rfl, by decide +kernel⟩
theorem mv_X10_fitNow : uvMV yX10_fitNow RX10 cX10_fitNow 3 (Option.some Jvm.ClassFile.FieldType.int) 2 := ⟨⟨tb_in (i := 1275) (by decide +kernel) rfl, tb_in (i := 60) (by decide +kernel) rfl, wd_12, tb_in (i := 1276) (by decide +kernel) rfl⟩, rfl, by decide +kernel⟩
theorem mv_X10_chainsNow : uvMV yX10_chainsNow RX10 cX10_chainsNow 1 (Option.some Jvm.ClassFile.FieldType.boolean) 0 := ⟨⟨tb_in (i := 1245) (by decide +kernel) rfl, tb_in (i := 54) (by decide +kernel) rfl, wd_12, tb_in (i := 1246) (by decide +kernel) rfl⟩, rfl, by decide +kernel⟩
theorem mv_X10_cost : uvMV yX10_cost RX10 cX10_cost 1 (Option.some Jvm.ClassFile.FieldType.int) 0 := ⟨⟨tb_in (i := 1240) (by decide +kernel) rfl, tb_in (i := 1241) (by decide +kernel) rfl, wd_12, tb_in (i := 1242) (by decide +kernel) rfl⟩, rfl, by decide +kernel⟩
theorem mv_X10_chain : uvMV yX10_chain RX10 cX10_chain 2 (Option.some Jvm.ClassFile.FieldType.int) 1 := ⟨⟨tb_in (i := 1266) (by decide +kernel) rfl, tb_in (i := 1267) (by decide +kernel) rfl, wd_12, tb_in (i := 1268) (by decide +kernel) rfl⟩, rfl, by decide +kernel⟩
theorem mv_X10_ways : uvMV yX10_ways RX10 cX10_ways 1 (Option.some Jvm.ClassFile.FieldType.int) 0 := ⟨⟨tb_in (i := 1278) (by decide +kernel) rfl, tb_in (i := 1279) (by decide +kernel) rfl, wd_12, tb_in (i := 1280) (by decide +kernel) rfl⟩, rfl, by decide +kernel⟩
theorem mv_X10_next : uvMV yX10_next RX10 cX10_next 1 (Option.some Jvm.ClassFile.FieldType.int) 0 := ⟨⟨tb_in (i := 1282) (by decide +kernel) rfl, tb_in (i := 1283) (by decide +kernel) rfl, wd_12, tb_in (i := 1284) (by decide +kernel) rfl⟩, rfl, by decide +kernel⟩
theorem mv_X10_dearest : uvMV yX10_dearest RX10 cX10_dearest 1 (Option.some Jvm.ClassFile.FieldType.int) 0 := ⟨⟨tb_in (i := 1286) (by decide +kernel) rfl, tb_in (i := 1287) (by decide +kernel) rfl, wd_12, tb_in (i := 1288) (by decide +kernel) rfl⟩, rfl, by decide +kernel⟩
theorem mv_X10_without : uvMV yX10_without RX10 cX10_without 3 (Option.some Jvm.ClassFile.FieldType.int) 1 := ⟨⟨tb_in (i := 1290) (by decide +kernel) rfl, tb_in (i := 1291) (by decide +kernel) rfl, wd_12, tb_in (i := 1292) (by decide +kernel) rfl⟩, rfl, by decide +kernel⟩
theorem mv_X10_about : uvMV yX10_about RX10 cX10_about 8 (Option.some Jvm.ClassFile.FieldType.int) 1 := ⟨⟨tb_in (i := 1294) (by decide +kernel) rfl, tb_in (i := 1295) (by decide +kernel) rfl, wd_12, tb_in (i := 1296) (by decide +kernel) rfl⟩, rfl, by decide +kernel⟩
theorem mv_X10_cheapest : uvMV yX10_cheapest RX10 cX10_cheapest 7 (Option.some Jvm.ClassFile.FieldType.int) 1 := ⟨⟨tb_in (i := 1298) (by decide +kernel) rfl, tb_in (i := 1299) (by decide +kernel) rfl, wd_12, tb_in (i := 1300) (by decide +kernel) rfl⟩, rfl, by decide +kernel⟩
theorem mv_X10_toldOf : uvMV yX10_toldOf RX10 cX10_toldOf 2 (Option.some Jvm.ClassFile.FieldType.int) 1 := ⟨⟨tb_in (i := 1307) (by decide +kernel) rfl, tb_in (i := 61) (by decide +kernel) rfl, wd_12, tb_in (i := 1308) (by decide +kernel) rfl⟩, rfl, by decide +kernel⟩
theorem mv_X10_told : uvMV yX10_told RX10 cX10_told 2 (Option.some Jvm.ClassFile.FieldType.int) 1 := ⟨⟨tb_in (i := 1302) (by decide +kernel) rfl, tb_in (i := 1303) (by decide +kernel) rfl, wd_12, tb_in (i := 1304) (by decide +kernel) rfl⟩, rfl, by decide +kernel⟩
theorem ms_X10_sums : uvMS yX10_sums cX10_sums 7 (Option.some Jvm.ClassFile.FieldType.long) 3 := ⟨⟨tb_in (i := 1316) (by decide +kernel) rfl, wd_12, tb_in (i := 1317) (by decide +kernel) rfl⟩, by decide +kernel⟩
theorem mv_X10_digest : uvMV yX10_digest RX10 cX10_digest 4 (Option.some Jvm.ClassFile.FieldType.long) 0 := ⟨⟨tb_in (i := 1310) (by decide +kernel) rfl, tb_in (i := 1311) (by decide +kernel) rfl, wd_12, tb_in (i := 1312) (by decide +kernel) rfl⟩, rfl, by decide +kernel⟩
theorem ms_J13_bitCount_95d88 : uvMS yJ13_bitCount_95d88 cJ13_bitCount_95d88 2 (Option.some Jvm.ClassFile.FieldType.int) 1 := ⟨⟨tb_in (i := 689) (by decide +kernel) rfl, wd_17, tb_in (i := 690) (by decide +kernel) rfl⟩, by decide +kernel⟩
theorem ms_J9_abs_0f7a4 : uvMS yJ9_abs_0f7a4 cJ9_abs_0f7a4 1 (Option.some Jvm.ClassFile.FieldType.int) 1 := ⟨⟨tb_in (i := 780) (by decide +kernel) rfl, wd_11, tb_in (i := 781) (by decide +kernel) rfl⟩, by decide +kernel⟩
theorem ms_J9_max_7cf53 : uvMS yJ9_max_7cf53 cJ9_max_7cf53 2 (Option.some Jvm.ClassFile.FieldType.int) 2 := ⟨⟨tb_in (i := 341) (by decide +kernel) rfl, wd_11, tb_in (i := 342) (by decide +kernel) rfl⟩, by decide +kernel⟩
theorem ms_J9_min_7cf53 : uvMS yJ9_min_7cf53 cJ9_min_7cf53 2 (Option.some Jvm.ClassFile.FieldType.int) 2 := ⟨⟨tb_in (i := 824) (by decide +kernel) rfl, wd_11, tb_in (i := 825) (by decide +kernel) rfl⟩, by decide +kernel⟩
theorem mv_J0_length_8abf5 : uvMV yJ0_length_8abf5 RJ0 cJ0_length_8abf5 1 (Option.some Jvm.ClassFile.FieldType.int) 0 := ⟨⟨tb_in (i := 536) (by decide +kernel) rfl, tb_in (i := 537) (by decide +kernel) rfl, wd_13, tb_in (i := 538) (by decide +kernel) rfl⟩, rfl, by decide +kernel⟩
theorem mv_J0_charAt_5068e : uvMV yJ0_charAt_5068e RJ0 cJ0_charAt_5068e 2 (Option.some Jvm.ClassFile.FieldType.char) 1 := ⟨⟨tb_in (i := 550) (by decide +kernel) rfl, tb_in (i := 551) (by decide +kernel) rfl, wd_13, tb_in (i := 552) (by decide +kernel) rfl⟩, rfl, by decide +kernel⟩
theorem mv_J0_coder_7d493 : uvMV yJ0_coder_7d493 RJ0 cJ0_coder_7d493 1 (Option.some Jvm.ClassFile.FieldType.byte) 0 := ⟨⟨tb_in (i := 540) (by decide +kernel) rfl, tb_in (i := 541) (by decide +kernel) rfl, wd_13, tb_in (i := 542) (by decide +kernel) rfl⟩, rfl, by decide +kernel⟩
theorem mv_J0_isLatin1_aae02 : uvMV yJ0_isLatin1_aae02 RJ0 cJ0_isLatin1_aae02 1 (Option.some Jvm.ClassFile.FieldType.boolean) 0 := ⟨⟨tb_in (i := 554) (by decide +kernel) rfl, tb_in (i := 555) (by decide +kernel) rfl, wd_13, tb_in (i := 556) (by decide +kernel) rfl⟩, rfl, by decide +kernel⟩
theorem ms_J0_checkIndex_df160 : uvMS yJ0_checkIndex_df160 cJ0_checkIndex_df160 2 (Option.none : Option Jvm.ClassFile.FieldType) 2 := ⟨⟨tb_in (i := 561) (by decide +kernel) rfl, wd_13, tb_in (i := 562) (by decide +kernel) rfl⟩, by decide +kernel⟩
theorem ms_J1_charAt_3b067 : uvMS yJ1_charAt_3b067 cJ1_charAt_3b067 2 (Option.some Jvm.ClassFile.FieldType.char) 2 := ⟨⟨tb_in (i := 558) (by decide +kernel) rfl, wd_14, tb_in (i := 559) (by decide +kernel) rfl⟩, by decide +kernel⟩
theorem ms_J2_getChar_3b067 : uvMS yJ2_getChar_3b067 cJ2_getChar_3b067 2 (Option.some Jvm.ClassFile.FieldType.char) 2 := ⟨⟨tb_in (i := 579) (by decide +kernel) rfl, wd_16, tb_in (i := 580) (by decide +kernel) rfl⟩, by decide +kernel⟩
theorem ms_J2_length_9d52b : uvMS yJ2_length_9d52b cJ2_length_9d52b 1 (Option.some Jvm.ClassFile.FieldType.int) 1 := ⟨⟨tb_in (i := 575) (by decide +kernel) rfl, wd_16, tb_in (i := 576) (by decide +kernel) rfl⟩, by decide +kernel⟩
theorem ms_J2_charAt_3b067 : uvMS yJ2_charAt_3b067 cJ2_charAt_3b067 2 (Option.some Jvm.ClassFile.FieldType.char) 2 := ⟨⟨tb_in (i := 569) (by decide +kernel) rfl, wd_16, tb_in (i := 570) (by decide +kernel) rfl⟩, by decide +kernel⟩
theorem ms_J2_checkIndex_2214a : uvMS yJ2_checkIndex_2214a cJ2_checkIndex_2214a 2 (Option.none : Option Jvm.ClassFile.FieldType) 2 := ⟨⟨tb_in (i := 572) (by decide +kernel) rfl, wd_16, tb_in (i := 573) (by decide +kernel) rfl⟩, by decide +kernel⟩
theorem ms_J3_checkIndex_8e157 : uvMS yJ3_checkIndex_8e157 cJ3_checkIndex_8e157 3 (Option.some Jvm.ClassFile.FieldType.int) 3 := ⟨⟨tb_in (i := 566) (by decide +kernel) rfl, wd_15, tb_in (i := 567) (by decide +kernel) rfl⟩, by decide +kernel⟩
end
section
theorem kd_0 : uvKd 0 = 9 := rfl
theorem kd_1 : uvKd 1 = 8 := rfl
theorem kd_2 : uvKd 2 = 11 := rfl
theorem ln_2 : uvLn 2 = 40 := rfl
theorem kd_3 : uvKd 3 = 11 := rfl
theorem ln_3 : uvLn 3 = 40 := rfl
theorem kd_4 : uvKd 4 = 11 := rfl
theorem ln_4 : uvLn 4 = 40 := rfl
theorem kd_5 : uvKd 5 = 11 := rfl
theorem ln_5 : uvLn 5 = 40 := rfl
theorem kd_6 : uvKd 6 = 11 := rfl
theorem ln_6 : uvLn 6 = 40 := rfl
theorem kd_7 : uvKd 7 = 11 := rfl
theorem ln_7 : uvLn 7 = 40 := rfl
theorem kd_8 : uvKd 8 = 11 := rfl
theorem ln_8 : uvLn 8 = 40 := rfl
theorem kd_9 : uvKd 9 = 11 := rfl
theorem ln_9 : uvLn 9 = 4 := rfl
theorem kd_10 : uvKd 10 = 4 := rfl
theorem kd_11 : uvKd 11 = 11 := rfl
theorem ln_11 : uvLn 11 = 8 := rfl
theorem kd_12 : uvKd 12 = 11 := rfl
theorem ln_12 : uvLn 12 = 8 := rfl
theorem kd_13 : uvKd 13 = 11 := rfl
theorem ln_13 : uvLn 13 = 8 := rfl
theorem kd_14 : uvKd 14 = 7 := rfl
theorem kd_15 : uvKd 15 = 11 := rfl
theorem ln_15 : uvLn 15 = 120 := rfl
theorem kd_16 : uvKd 16 = 11 := rfl
theorem ln_16 : uvLn 16 = 120 := rfl
theorem kd_17 : uvKd 17 = 11 := rfl
theorem ln_17 : uvLn 17 = 120 := rfl
theorem kd_18 : uvKd 18 = 11 := rfl
theorem ln_18 : uvLn 18 = 120 := rfl
theorem kd_19 : uvKd 19 = 11 := rfl
theorem ln_19 : uvLn 19 = 120 := rfl
theorem kd_20 : uvKd 20 = 11 := rfl
theorem ln_20 : uvLn 20 = 120 := rfl
theorem kd_21 : uvKd 21 = 6 := rfl
theorem kd_22 : uvKd 22 = 11 := rfl
theorem ln_22 : uvLn 22 = 120 := rfl
theorem kd_23 : uvKd 23 = 4 := rfl
theorem kd_24 : uvKd 24 = 11 := rfl
theorem ln_24 : uvLn 24 = 8 := rfl
theorem kd_25 : uvKd 25 = 11 := rfl
theorem ln_25 : uvLn 25 = 8 := rfl
theorem kd_26 : uvKd 26 = 11 := rfl
theorem ln_26 : uvLn 26 = 8 := rfl
theorem kd_27 : uvKd 27 = 7 := rfl
theorem kd_28 : uvKd 28 = 11 := rfl
theorem ln_28 : uvLn 28 = 120 := rfl
theorem kd_29 : uvKd 29 = 11 := rfl
theorem ln_29 : uvLn 29 = 120 := rfl
theorem kd_30 : uvKd 30 = 11 := rfl
theorem ln_30 : uvLn 30 = 120 := rfl
theorem kd_31 : uvKd 31 = 11 := rfl
theorem ln_31 : uvLn 31 = 120 := rfl
theorem kd_32 : uvKd 32 = 11 := rfl
theorem ln_32 : uvLn 32 = 120 := rfl
theorem kd_33 : uvKd 33 = 11 := rfl
theorem ln_33 : uvLn 33 = 120 := rfl
theorem kd_34 : uvKd 34 = 11 := rfl
theorem ln_34 : uvLn 34 = 6 := rfl
theorem kd_35 : uvKd 35 = 2 := rfl
theorem kd_36 : uvKd 36 = 11 := rfl
theorem ln_36 : uvLn 36 = 40 := rfl
theorem kd_37 : uvKd 37 = 12 := rfl
theorem ln_37 : uvLn 37 = 8 := rfl
theorem kd_38 : uvKd 38 = 1 := rfl
theorem kd_39 : uvKd 39 = 11 := rfl
theorem ln_39 : uvLn 39 = 40 := rfl
theorem kd_40 : uvKd 40 = 1 := rfl
theorem kd_41 : uvKd 41 = 11 := rfl
theorem ln_41 : uvLn 41 = 40 := rfl
theorem kd_42 : uvKd 42 = 1 := rfl
theorem kd_43 : uvKd 43 = 11 := rfl
theorem ln_43 : uvLn 43 = 40 := rfl
theorem kd_44 : uvKd 44 = 1 := rfl
theorem kd_45 : uvKd 45 = 11 := rfl
theorem ln_45 : uvLn 45 = 40 := rfl
theorem kd_46 : uvKd 46 = 1 := rfl
theorem kd_47 : uvKd 47 = 11 := rfl
theorem ln_47 : uvLn 47 = 40 := rfl
theorem kd_48 : uvKd 48 = 1 := rfl
theorem kd_49 : uvKd 49 = 11 := rfl
theorem ln_49 : uvLn 49 = 40 := rfl
theorem kd_50 : uvKd 50 = 1 := rfl
theorem kd_51 : uvKd 51 = 11 := rfl
theorem ln_51 : uvLn 51 = 40 := rfl
theorem kd_52 : uvKd 52 = 1 := rfl
theorem kd_53 : uvKd 53 = 11 := rfl
theorem ln_53 : uvLn 53 = 40 := rfl
theorem kd_54 : uvKd 54 = 3 := rfl
theorem kd_55 : uvKd 55 = 0 := rfl
theorem kd_56 : uvKd 56 = 13 := rfl
theorem ln_56 : uvLn 56 = 8 := rfl
theorem kd_57 : uvKd 57 = 5 := rfl
theorem kd_58 : uvKd 58 = 11 := rfl
theorem ln_58 : uvLn 58 = 1 := rfl
theorem kd_59 : uvKd 59 = 11 := rfl
theorem ln_59 : uvLn 59 = 1 := rfl
theorem kd_60 : uvKd 60 = 11 := rfl
theorem ln_60 : uvLn 60 = 1 := rfl
theorem kd_61 : uvKd 61 = 11 := rfl
theorem ln_61 : uvLn 61 = 1 := rfl
theorem kd_62 : uvKd 62 = 11 := rfl
theorem ln_62 : uvLn 62 = 1 := rfl
theorem kd_63 : uvKd 63 = 5 := rfl
theorem kd_64 : uvKd 64 = 11 := rfl
theorem ln_64 : uvLn 64 = 1 := rfl
theorem kd_65 : uvKd 65 = 11 := rfl
theorem ln_65 : uvLn 65 = 1 := rfl
theorem kd_66 : uvKd 66 = 11 := rfl
theorem ln_66 : uvLn 66 = 1 := rfl
theorem kd_67 : uvKd 67 = 11 := rfl
theorem ln_67 : uvLn 67 = 1 := rfl
theorem kd_68 : uvKd 68 = 11 := rfl
theorem ln_68 : uvLn 68 = 1 := rfl
theorem kd_69 : uvKd 69 = 11 := rfl
theorem ln_69 : uvLn 69 = 8 := rfl
theorem kd_70 : uvKd 70 = 5 := rfl
theorem kd_71 : uvKd 71 = 11 := rfl
theorem ln_71 : uvLn 71 = 40 := rfl
theorem kd_72 : uvKd 72 = 11 := rfl
theorem ln_72 : uvLn 72 = 40 := rfl
theorem kd_73 : uvKd 73 = 11 := rfl
theorem ln_73 : uvLn 73 = 40 := rfl
theorem kd_74 : uvKd 74 = 11 := rfl
theorem ln_74 : uvLn 74 = 40 := rfl
theorem kd_75 : uvKd 75 = 11 := rfl
theorem ln_75 : uvLn 75 = 40 := rfl
theorem kd_76 : uvKd 76 = 5 := rfl
theorem kd_77 : uvKd 77 = 11 := rfl
theorem ln_77 : uvLn 77 = 40 := rfl
theorem kd_78 : uvKd 78 = 11 := rfl
theorem ln_78 : uvLn 78 = 40 := rfl
theorem kd_79 : uvKd 79 = 11 := rfl
theorem ln_79 : uvLn 79 = 40 := rfl
theorem kd_80 : uvKd 80 = 11 := rfl
theorem ln_80 : uvLn 80 = 40 := rfl
theorem kd_81 : uvKd 81 = 11 := rfl
theorem ln_81 : uvLn 81 = 40 := rfl
theorem kd_82 : uvKd 82 = 5 := rfl
theorem kd_83 : uvKd 83 = 11 := rfl
theorem ln_83 : uvLn 83 = 40 := rfl
theorem kd_84 : uvKd 84 = 11 := rfl
theorem ln_84 : uvLn 84 = 40 := rfl
theorem kd_85 : uvKd 85 = 11 := rfl
theorem ln_85 : uvLn 85 = 40 := rfl
theorem kd_86 : uvKd 86 = 11 := rfl
theorem ln_86 : uvLn 86 = 40 := rfl
theorem kd_87 : uvKd 87 = 11 := rfl
theorem ln_87 : uvLn 87 = 40 := rfl
theorem kd_88 : uvKd 88 = 5 := rfl
theorem kd_89 : uvKd 89 = 11 := rfl
theorem ln_89 : uvLn 89 = 40 := rfl
theorem kd_90 : uvKd 90 = 11 := rfl
theorem ln_90 : uvLn 90 = 40 := rfl
theorem kd_91 : uvKd 91 = 11 := rfl
theorem ln_91 : uvLn 91 = 40 := rfl
theorem kd_92 : uvKd 92 = 11 := rfl
theorem ln_92 : uvLn 92 = 40 := rfl
theorem kd_93 : uvKd 93 = 11 := rfl
theorem ln_93 : uvLn 93 = 40 := rfl
theorem kd_94 : uvKd 94 = 5 := rfl
theorem kd_95 : uvKd 95 = 11 := rfl
theorem ln_95 : uvLn 95 = 40 := rfl
theorem kd_96 : uvKd 96 = 11 := rfl
theorem ln_96 : uvLn 96 = 40 := rfl
theorem kd_97 : uvKd 97 = 11 := rfl
theorem ln_97 : uvLn 97 = 40 := rfl
theorem kd_98 : uvKd 98 = 11 := rfl
theorem ln_98 : uvLn 98 = 40 := rfl
theorem kd_99 : uvKd 99 = 11 := rfl
theorem ln_99 : uvLn 99 = 40 := rfl
theorem kd_100 : uvKd 100 = 5 := rfl
theorem kd_101 : uvKd 101 = 11 := rfl
theorem ln_101 : uvLn 101 = 40 := rfl
theorem kd_102 : uvKd 102 = 11 := rfl
theorem ln_102 : uvLn 102 = 40 := rfl
theorem kd_103 : uvKd 103 = 11 := rfl
theorem ln_103 : uvLn 103 = 40 := rfl
theorem kd_104 : uvKd 104 = 11 := rfl
theorem ln_104 : uvLn 104 = 40 := rfl
theorem kd_105 : uvKd 105 = 11 := rfl
theorem ln_105 : uvLn 105 = 40 := rfl
theorem kd_106 : uvKd 106 = 5 := rfl
theorem kd_107 : uvKd 107 = 11 := rfl
theorem ln_107 : uvLn 107 = 40 := rfl
theorem kd_108 : uvKd 108 = 11 := rfl
theorem ln_108 : uvLn 108 = 40 := rfl
theorem kd_109 : uvKd 109 = 11 := rfl
theorem ln_109 : uvLn 109 = 40 := rfl
theorem kd_110 : uvKd 110 = 11 := rfl
theorem ln_110 : uvLn 110 = 40 := rfl
theorem kd_111 : uvKd 111 = 11 := rfl
theorem ln_111 : uvLn 111 = 40 := rfl
theorem kd_112 : uvKd 112 = 5 := rfl
theorem kd_113 : uvKd 113 = 11 := rfl
theorem ln_113 : uvLn 113 = 40 := rfl
theorem kd_114 : uvKd 114 = 11 := rfl
theorem ln_114 : uvLn 114 = 40 := rfl
theorem kd_115 : uvKd 115 = 11 := rfl
theorem ln_115 : uvLn 115 = 40 := rfl
theorem kd_116 : uvKd 116 = 11 := rfl
theorem ln_116 : uvLn 116 = 40 := rfl
theorem kd_117 : uvKd 117 = 11 := rfl
theorem ln_117 : uvLn 117 = 40 := rfl
theorem kd_118 : uvKd 118 = 10 := rfl
theorem kd_119 : uvKd 119 = 11 := rfl
theorem ln_119 : uvLn 119 = 240 := rfl
theorem kd_120 : uvKd 120 = 11 := rfl
theorem ln_120 : uvLn 120 = 24 := rfl
theorem kd_121 : uvKd 121 = 11 := rfl
theorem ln_121 : uvLn 121 = 6 := rfl
theorem kd_122 : uvKd 122 = 11 := rfl
theorem ln_122 : uvLn 122 = 128 := rfl
theorem kd_123 : uvKd 123 = 11 := rfl
theorem ln_123 : uvLn 123 = 128 := rfl
theorem kd_124 : uvKd 124 = 11 := rfl
theorem ln_124 : uvLn 124 = 128 := rfl
theorem kd_125 : uvKd 125 = 11 := rfl
theorem ln_125 : uvLn 125 = 128 := rfl
theorem kd_126 : uvKd 126 = 11 := rfl
theorem ln_126 : uvLn 126 = 3 := rfl
theorem kd_127 : uvKd 127 = 11 := rfl
theorem ln_127 : uvLn 127 = 120 := rfl
theorem kd_128 : uvKd 128 = 11 := rfl
theorem ln_128 : uvLn 128 = 24 := rfl
theorem kd_129 : uvKd 129 = 11 := rfl
theorem ln_129 : uvLn 129 = 128 := rfl
theorem kd_130 : uvKd 130 = 11 := rfl
theorem ln_130 : uvLn 130 = 128 := rfl
theorem kd_131 : uvKd 131 = 11 := rfl
theorem ln_131 : uvLn 131 = 128 := rfl
theorem kd_132 : uvKd 132 = 11 := rfl
theorem ln_132 : uvLn 132 = 128 := rfl
theorem kd_133 : uvKd 133 = 11 := rfl
theorem ln_133 : uvLn 133 = 8 := rfl
theorem kd_134 : uvKd 134 = 11 := rfl
theorem ln_134 : uvLn 134 = 8 := rfl
theorem kd_135 : uvKd 135 = 11 := rfl
theorem ln_135 : uvLn 135 = 320 := rfl
theorem kd_136 : uvKd 136 = 11 := rfl
theorem ln_136 : uvLn 136 = 8 := rfl
theorem kd_137 : uvKd 137 = 11 := rfl
theorem ln_137 : uvLn 137 = 320 := rfl
theorem kd_138 : uvKd 138 = 11 := rfl
theorem ln_138 : uvLn 138 = 320 := rfl
theorem kd_139 : uvKd 139 = 11 := rfl
theorem ln_139 : uvLn 139 = 320 := rfl
theorem kd_140 : uvKd 140 = 11 := rfl
theorem ln_140 : uvLn 140 = 320 := rfl
theorem kd_141 : uvKd 141 = 11 := rfl
theorem ln_141 : uvLn 141 = 8 := rfl
theorem ite_k {c : Prop} {_ : Decidable c} {a b k : Nat} (ha : a ≠ k) (h : (if c then a else b) = k) : b = k := by
  by_cases hc : c
  · rw [if_pos hc] at h; exact absurd h ha
  · rw [if_neg hc] at h; exact h
theorem kd_inv1 {o : Int} (h : uvKd o = 1) : o = 38 ∨ o = 40 ∨ o = 42 ∨ o = 44 ∨ o = 46 ∨ o = 48 ∨ o = 50 ∨ o = 52 := by
  obtain ⟨h0, h1⟩ := uvKd_in h (by decide)
  have h1 : o < 142 := h1
  by_cases c : 38 ≤ o ∧ o < 54 ∧ o % 2 = 0
  · omega
  · exfalso
    unfold uvKd at h
    rw [if_neg c] at h
    repeat replace h := ite_k (by decide) h
    exact absurd h (by decide)
theorem kd_inv4 {o : Int} (h : uvKd o = 4) : o = 10 ∨ o = 23 := by
  by_cases c : o = 10 ∨ o = 23
  · exact c
  · exfalso
    unfold uvKd at h
    rw [if_neg c] at h
    repeat replace h := ite_k (by decide) h
    exact absurd h (by decide)
theorem kd_inv7 {o : Int} (h : uvKd o = 7) : o = 14 ∨ o = 27 := by
  by_cases c : o = 14 ∨ o = 27
  · exact c
  · exfalso
    unfold uvKd at h
    rw [if_neg c] at h
    repeat replace h := ite_k (by decide) h
    exact absurd h (by decide)
theorem kd_inv5 {o : Int} (h : uvKd o = 5) : o = 57 ∨ o = 63 ∨ o = 70 ∨ o = 76 ∨ o = 82 ∨ o = 88 ∨ o = 94 ∨ o = 100 ∨ o = 106 ∨ o = 112 := by
  by_cases c : o = 57 ∨ o = 63 ∨ (70 ≤ o ∧ o < 118 ∧ (o - 70) % 6 = 0)
  · omega
  · exfalso
    unfold uvKd at h
    rw [if_neg c] at h
    repeat replace h := ite_k (by decide) h
    exact absurd h (by decide)
theorem rf_37 (i : Int) : uvRf 37 i = 38 + 2 * i := rfl
theorem rf_56 (i : Int) : uvRf 56 i = 70 + 6 * i := rfl
theorem kd_ch {i : Int} (h : 0 ≤ i ∧ i < (8 : Nat)) : uvKd (38 + 2 * i) = 1 := by
  have : i = 0 ∨ i = 1 ∨ i = 2 ∨ i = 3 ∨ i = 4 ∨ i = 5 ∨ i = 6 ∨ i = 7 := by omega
  rcases this with rfl | rfl | rfl | rfl | rfl | rfl | rfl | rfl <;> rfl
theorem kd_ta {i : Int} (h : 0 ≤ i ∧ i < (8 : Nat)) : uvKd (70 + 6 * i) = 5 := by
  have : i = 0 ∨ i = 1 ∨ i = 2 ∨ i = 3 ∨ i = 4 ∨ i = 5 ∨ i = 6 ∨ i = 7 := by omega
  rcases this with rfl | rfl | rfl | rfl | rfl | rfl | rfl | rfl <;> rfl
theorem rf1_0 {o : Int} (h : uvKd o = 1) : uvRf o 0 = o + 1 := by rcases kd_inv1 h with rfl | rfl | rfl | rfl | rfl | rfl | rfl | rfl <;> rfl
theorem ka1_0 {o : Int} (h : uvKd o = 1) : uvKd (o + 1) = 11 := by rcases kd_inv1 h with rfl | rfl | rfl | rfl | rfl | rfl | rfl | rfl <;> rfl
theorem ln1_0 {o : Int} (h : uvKd o = 1) : uvLn (o + 1) = 40 := by rcases kd_inv1 h with rfl | rfl | rfl | rfl | rfl | rfl | rfl | rfl <;> rfl
theorem rf4_0 {o : Int} (h : uvKd o = 4) : uvRf o 0 = o + 1 := by rcases kd_inv4 h with rfl | rfl <;> rfl
theorem ka4_0 {o : Int} (h : uvKd o = 4) : uvKd (o + 1) = 11 := by rcases kd_inv4 h with rfl | rfl <;> rfl
theorem ln4_0 {o : Int} (h : uvKd o = 4) : uvLn (o + 1) = 8 := by rcases kd_inv4 h with rfl | rfl <;> rfl
theorem rf4_1 {o : Int} (h : uvKd o = 4) : uvRf o 1 = o + 2 := by rcases kd_inv4 h with rfl | rfl <;> rfl
theorem ka4_1 {o : Int} (h : uvKd o = 4) : uvKd (o + 2) = 11 := by rcases kd_inv4 h with rfl | rfl <;> rfl
theorem ln4_1 {o : Int} (h : uvKd o = 4) : uvLn (o + 2) = 8 := by rcases kd_inv4 h with rfl | rfl <;> rfl
theorem rf4_2 {o : Int} (h : uvKd o = 4) : uvRf o 2 = o + 3 := by rcases kd_inv4 h with rfl | rfl <;> rfl
theorem ka4_2 {o : Int} (h : uvKd o = 4) : uvKd (o + 3) = 11 := by rcases kd_inv4 h with rfl | rfl <;> rfl
theorem ln4_2 {o : Int} (h : uvKd o = 4) : uvLn (o + 3) = 8 := by rcases kd_inv4 h with rfl | rfl <;> rfl
theorem rf7_0 {o : Int} (h : uvKd o = 7) : uvRf o 0 = o + 1 := by rcases kd_inv7 h with rfl | rfl <;> rfl
theorem ka7_0 {o : Int} (h : uvKd o = 7) : uvKd (o + 1) = 11 := by rcases kd_inv7 h with rfl | rfl <;> rfl
theorem ln7_0 {o : Int} (h : uvKd o = 7) : uvLn (o + 1) = 120 := by rcases kd_inv7 h with rfl | rfl <;> rfl
theorem rf7_1 {o : Int} (h : uvKd o = 7) : uvRf o 1 = o + 2 := by rcases kd_inv7 h with rfl | rfl <;> rfl
theorem ka7_1 {o : Int} (h : uvKd o = 7) : uvKd (o + 2) = 11 := by rcases kd_inv7 h with rfl | rfl <;> rfl
theorem ln7_1 {o : Int} (h : uvKd o = 7) : uvLn (o + 2) = 120 := by rcases kd_inv7 h with rfl | rfl <;> rfl
theorem rf7_2 {o : Int} (h : uvKd o = 7) : uvRf o 2 = o + 3 := by rcases kd_inv7 h with rfl | rfl <;> rfl
theorem ka7_2 {o : Int} (h : uvKd o = 7) : uvKd (o + 3) = 11 := by rcases kd_inv7 h with rfl | rfl <;> rfl
theorem ln7_2 {o : Int} (h : uvKd o = 7) : uvLn (o + 3) = 120 := by rcases kd_inv7 h with rfl | rfl <;> rfl
theorem rf7_3 {o : Int} (h : uvKd o = 7) : uvRf o 3 = o + 4 := by rcases kd_inv7 h with rfl | rfl <;> rfl
theorem ka7_3 {o : Int} (h : uvKd o = 7) : uvKd (o + 4) = 11 := by rcases kd_inv7 h with rfl | rfl <;> rfl
theorem ln7_3 {o : Int} (h : uvKd o = 7) : uvLn (o + 4) = 120 := by rcases kd_inv7 h with rfl | rfl <;> rfl
theorem rf7_4 {o : Int} (h : uvKd o = 7) : uvRf o 4 = o + 5 := by rcases kd_inv7 h with rfl | rfl <;> rfl
theorem ka7_4 {o : Int} (h : uvKd o = 7) : uvKd (o + 5) = 11 := by rcases kd_inv7 h with rfl | rfl <;> rfl
theorem ln7_4 {o : Int} (h : uvKd o = 7) : uvLn (o + 5) = 120 := by rcases kd_inv7 h with rfl | rfl <;> rfl
theorem rf7_5 {o : Int} (h : uvKd o = 7) : uvRf o 5 = o + 6 := by rcases kd_inv7 h with rfl | rfl <;> rfl
theorem ka7_5 {o : Int} (h : uvKd o = 7) : uvKd (o + 6) = 11 := by rcases kd_inv7 h with rfl | rfl <;> rfl
theorem ln7_5 {o : Int} (h : uvKd o = 7) : uvLn (o + 6) = 120 := by rcases kd_inv7 h with rfl | rfl <;> rfl
theorem rf5_0 {o : Int} (h : uvKd o = 5) : uvRf o 0 = o + 1 := by rcases kd_inv5 h with rfl | rfl | rfl | rfl | rfl | rfl | rfl | rfl | rfl | rfl <;> rfl
theorem ka5_0 {o : Int} (h : uvKd o = 5) : uvKd (o + 1) = 11 := by rcases kd_inv5 h with rfl | rfl | rfl | rfl | rfl | rfl | rfl | rfl | rfl | rfl <;> rfl
theorem rf5_1 {o : Int} (h : uvKd o = 5) : uvRf o 1 = o + 2 := by rcases kd_inv5 h with rfl | rfl | rfl | rfl | rfl | rfl | rfl | rfl | rfl | rfl <;> rfl
theorem ka5_1 {o : Int} (h : uvKd o = 5) : uvKd (o + 2) = 11 := by rcases kd_inv5 h with rfl | rfl | rfl | rfl | rfl | rfl | rfl | rfl | rfl | rfl <;> rfl
theorem rf5_2 {o : Int} (h : uvKd o = 5) : uvRf o 2 = o + 3 := by rcases kd_inv5 h with rfl | rfl | rfl | rfl | rfl | rfl | rfl | rfl | rfl | rfl <;> rfl
theorem ka5_2 {o : Int} (h : uvKd o = 5) : uvKd (o + 3) = 11 := by rcases kd_inv5 h with rfl | rfl | rfl | rfl | rfl | rfl | rfl | rfl | rfl | rfl <;> rfl
theorem rf5_3 {o : Int} (h : uvKd o = 5) : uvRf o 3 = o + 4 := by rcases kd_inv5 h with rfl | rfl | rfl | rfl | rfl | rfl | rfl | rfl | rfl | rfl <;> rfl
theorem ka5_3 {o : Int} (h : uvKd o = 5) : uvKd (o + 4) = 11 := by rcases kd_inv5 h with rfl | rfl | rfl | rfl | rfl | rfl | rfl | rfl | rfl | rfl <;> rfl
theorem rf5_4 {o : Int} (h : uvKd o = 5) : uvRf o 4 = o + 5 := by rcases kd_inv5 h with rfl | rfl | rfl | rfl | rfl | rfl | rfl | rfl | rfl | rfl <;> rfl
theorem ka5_4 {o : Int} (h : uvKd o = 5) : uvKd (o + 5) = 11 := by rcases kd_inv5 h with rfl | rfl | rfl | rfl | rfl | rfl | rfl | rfl | rfl | rfl <;> rfl
theorem wI_ite {c : Prop} {_ : Decidable c} {a b : Int} (ha : wI a = a) (hb : wI b = b) : wI (if c then a else b) = if c then a else b := by
  by_cases h : c
  · rw [if_pos h]; exact ha
  · rw [if_neg h]; exact hb
theorem b01_ite {c : Prop} {_ : Decidable c} {a b : Int} (ha : a = 0 ∨ a = 1) (hb : b = 0 ∨ b = 1) : (if c then a else b) = 0 ∨ (if c then a else b) = 1 := by
  by_cases h : c
  · rw [if_pos h]; exact ha
  · rw [if_neg h]; exact hb
end
section
section UVM
variable {p : Program} {l : Launch} {e : Env} {R : Room} {s : State} {m : MethodId} {args : Array Value} {below : List Frame} {meth : Method} {c : Code} {H : Heap} {locs : List Loc} {cells slots : Nat} {Q : State → Prop}
variable {pc : Nat} {ls : Array Slot} {rest : List Value}
theorem r_eqI {x v : Int} (hv : v = x) (k : W p l e R s m args below meth c H locs cells slots Q (F0 m pc ls (.int (iV v) :: rest))) : W p l e R s m args below meth c H locs cells slots Q (F0 m pc ls (.int (iV x) :: rest)) := hv ▸ k
theorem r_eqL {x v : Int} (hv : v = x) (k : W p l e R s m args below meth c H locs cells slots Q (F0 m pc ls (.long (lV v) :: rest))) : W p l e R s m args below meth c H locs cells slots Q (F0 m pc ls (.long (lV x) :: rest)) := hv ▸ k
end UVM
/-! rooms of the group that calls itself -/
def rmN (d : Nat) : Room := { frames := 2 * d + 4, cells := 0, slots := 0, locals := 100 * d + 300 }
def rmB (d : Nat) : Room := { frames := 2 * d + 5, cells := 0, slots := 0, locals := 100 * d + 340 }
def sLen (w : Int) : Int := if w = 0 then 3 else 4
def sChr (w i : Int) : Int := if w = 0 then (if i = 0 then 114 else if i = 1 then 111 else 119) else (if i = 0 then 116 else if i = 1 then 114 else 101)
/-! Math.max, min, abs -/
def f_J9_max_7cf53 (a0 a1 : Int) : Int := if wI a0 < wI a1 then a1 else a0
def f_J9_min_7cf53 (a0 a1 : Int) : Int := if wI a1 < wI a0 then a1 else a0
def f_J9_abs_0f7a4 (a0 : Int) : Int := if wI a0 < 0 then 0 - a0 else a0
theorem mw_max : Cond.static Lib.Math.max.name ∈ TB ∧ Cond.code Lib.Math.max.name Lib.Math.max.code 2 (some .int) ∈ TB := ⟨tb_in (i := 341) (by decide +kernel) rfl, tb_in (i := 342) (by decide +kernel) rfl⟩
theorem mw_abs : Cond.static Lib.Math.abs.name ∈ TB ∧ Cond.code Lib.Math.abs.name Lib.Math.abs.code 1 (some .int) ∈ TB := ⟨tb_in (i := 780) (by decide +kernel) rfl, tb_in (i := 781) (by decide +kernel) rfl⟩
theorem mw_min : Cond.static Lib.Math.min.name ∈ TB ∧ Cond.code Lib.Math.min.name Lib.Math.min.code 2 (some .int) ∈ TB := ⟨tb_in (i := 824) (by decide +kernel) rfl, tb_in (i := 825) (by decide +kernel) rfl⟩
theorem mw_ini : Cond.initialized "java/lang/Math" ∈ TB := wd_11
section UVQ
variable {p : Program} {l : Launch} {e : Env} {R : Room} {s : State} {m : MethodId} {args : Array Value} {below : List Frame} {meth : Method} {c : Code} {H : Heap} {locs : List Loc} {cells slots : Nat} {Q : State → Prop}
variable {cc : ByteArray} {nL : Nat} {own : String} {rt : Option FieldType} {pc : Nat} {ls : Array Slot} {rest : List Value}
theorem r_mmax (X : uvCx p m c cc nL own s args meth rt) {index : Nat} {x y : Int} (hl : Cond.methodLink own index Lib.Math.max.name ∈ TB) (hsz : ls.size = nL) (hf : 1 ≤ R.frames) (hlo : (rest.map fun v => v.category).sum + 13 ≤ R.locals) (hc : cells ≤ R.cells ∧ slots ≤ R.slots) (d : decode cc pc = .ok (.invokestatic index, 3))
    (kk : W p l e R s m args below meth c H locs cells slots Q (F0 m (pc + 3) ls (.int (iV (f_J9_max_7cf53 x y)) :: rest))) : W p l e R s m args below meth c H locs cells slots Q (F0 m pc ls (.int (iV y) :: .int (iV x) :: rest)) := by
  have hts := X.2.2.2.2.1
  refine va_mmax X.1 X.2.1 (X.2.2.1.trans hsz.symm) X.2.2.2.1 (hts _ hl) (hts _ mw_max.1) (hts _ mw_ini) (hts _ mw_max.2) hf hlo hc.1 hc.2 d ?_
  have q : (if iV x < iV y then iV y else iV x) = iV (f_J9_max_7cf53 x y) := by
    unfold f_J9_max_7cf53
    by_cases h : wI x < wI y
    · rw [if_pos h, if_pos ((iV_lt x y).mpr h)]
    · rw [if_neg h, if_neg (fun z => h ((iV_lt x y).mp z))]
  rw [q]
  exact kk
theorem r_mmin (X : uvCx p m c cc nL own s args meth rt) {index : Nat} {x y : Int} (hl : Cond.methodLink own index Lib.Math.min.name ∈ TB) (hsz : ls.size = nL) (hf : 1 ≤ R.frames) (hlo : (rest.map fun v => v.category).sum + 13 ≤ R.locals) (hc : cells ≤ R.cells ∧ slots ≤ R.slots) (d : decode cc pc = .ok (.invokestatic index, 3))
    (kk : W p l e R s m args below meth c H locs cells slots Q (F0 m (pc + 3) ls (.int (iV (f_J9_min_7cf53 x y)) :: rest))) : W p l e R s m args below meth c H locs cells slots Q (F0 m pc ls (.int (iV y) :: .int (iV x) :: rest)) := by
  have hts := X.2.2.2.2.1
  refine va_mmin X.1 X.2.1 (X.2.2.1.trans hsz.symm) X.2.2.2.1 (hts _ hl) (hts _ mw_min.1) (hts _ mw_ini) (hts _ mw_min.2) hf hlo hc.1 hc.2 d ?_
  have q : (if iV y < iV x then iV y else iV x) = iV (f_J9_min_7cf53 x y) := by
    unfold f_J9_min_7cf53
    by_cases h : wI y < wI x
    · rw [if_pos h, if_pos ((iV_lt y x).mpr h)]
    · rw [if_neg h, if_neg (fun z => h ((iV_lt y x).mp z))]
  rw [q]
  exact kk
theorem r_mabs (X : uvCx p m c cc nL own s args meth rt) {index : Nat} {x : Int} (hl : Cond.methodLink own index Lib.Math.abs.name ∈ TB) (hsz : ls.size = nL) (hf : 1 ≤ R.frames) (hlo : (rest.map fun v => v.category).sum + 13 ≤ R.locals) (hc : cells ≤ R.cells ∧ slots ≤ R.slots) (d : decode cc pc = .ok (.invokestatic index, 3))
    (kk : W p l e R s m args below meth c H locs cells slots Q (F0 m (pc + 3) ls (.int (iV (f_J9_abs_0f7a4 x)) :: rest))) : W p l e R s m args below meth c H locs cells slots Q (F0 m pc ls (.int (iV x) :: rest)) := by
  have hts := X.2.2.2.2.1
  refine va_mabs X.1 X.2.1 (X.2.2.1.trans hsz.symm) X.2.2.2.1 (hts _ hl) (hts _ mw_abs.1) (hts _ mw_ini) (hts _ mw_abs.2) hf hlo hc.1 hc.2 d ?_
  have q : (if 0 ≤ iV x then iV x else 0 - iV x) = iV (f_J9_abs_0f7a4 x) := by
    unfold f_J9_abs_0f7a4
    by_cases h : wI x < 0
    · rw [if_pos h, if_neg (fun z => by have h2 : wI 0 ≤ wI x := (iV_le 0 x).mp z; have : wI 0 = 0 := rfl; omega)]
      exact iV_sub 0 x
    · have h2 : (0 : Int32) ≤ iV x := (iV_le 0 x).mpr (by have : wI 0 = 0 := rfl; omega)
      rw [if_neg h, if_pos h2]
  rw [q]
  exact kk
end UVQ
theorem pn_test : plainName "java/lang/Long" = true ∧ plainName "java/lang/String" = true ∧ plainName "java/lang/StringLatin1" = true ∧ plainName "jdk/internal/util/Preconditions" = true := by decide
end
section
/-! ===== the two String constants: length, charAt ===== -/
section UVT
variable {p : Program} {l : Launch} {e : Env} {R : Room} {s : State} {m : MethodId} {args : Array Value} {below : List Frame} {meth : Method} {c : Code} {H : Heap} {locs : List Loc} {cells slots : Nat} {Q : State → Prop}
variable {cc : ByteArray} {nL : Nat} {own : String} {rt : Option FieldType} {pc : Nat} {ls : Array Slot} {rest : List Value} {G : UG} {σ σ' : St}
theorem r_rn {ty : FieldType} (X : uvCx p m c cc nL own s args meth (some ty)) (V : uvWo G σ s H locs) {v : Int32} {r : Int} (hn : narrow ty (.int v) = .int v) (hv : v = iV r) (d : decode cc pc = .ok (.ireturn, 1)) : W p l e R s m args below meth c H locs cells slots (MQ below (uvQi G r σ) args s cells slots (uvA G)) (F0 m pc ls [.int v]) := by
  exact W.zret X.1 X.2.1 X.2.2.2.2.2.1 hn (fun t ht _ => ⟨⟨_, (), rfl, hv, by show va_P _ _ _ t.heap; rw [ht]; exact V.1⟩, V.2.F ht⟩) V.2.2.2 d X.2.2.2.2.2.2
theorem r_runVS {y : MethodName} {bytes : ByteArray} {maxL n index i : Nat} {ret : Option FieldType} {rm : Room} {As st0 : List Value} {Qc : Array Value → State → Outcome → State → Prop} (X : uvCx p m c cc nL own s args meth rt) (Y : uvGd G s s.heap) (V : uvWo G σ s H locs) (hi : i < 2) (hM : Met l y (.code y bytes maxL ret :: TB) rm (uvPc G σ (.ref (G.2.2.2.1 i) :: As)) Qc 0 0 (uvA G))
    (hy : uvMV y "java/lang/String" bytes maxL ret n) (hl : Cond.methodLink own index y ∈ TB) (hrm : uvRm rm R maxL) (hn : As.length = n) (hst : st0 = As.reverse ++ .ref (G.2.2.2.1 i) :: rest) (hsz : ls.size = nL) (hW : (rest.map fun v => v.category).sum ≤ 8) (hc : cells ≤ R.cells ∧ slots ≤ R.slots) (d : decode cc pc = .ok (.invokevirtual index, 3)) :
    va_Run p l e R s m args below meth c H locs cells slots 0 0 (F0 m pc ls st0) rest (Qc (Value.ref (G.2.2.2.1 i) :: As).toArray) (uvA G) := by
  obtain ⟨⟨w1, w2, w3, w4⟩, hC, hd⟩ := hy
  have hts := X.2.2.2.2.1
  have hG : GoodIn TB (Cond.code y bytes maxL ret :: TB) := tb_gi (fun w h => (List.mem_cons.mp h).elim (fun z => z ▸ w4) id)
  exact va_runV (Ts := TB) (As := As) (rest := rest) (C := "java/lang/String") ⟨X.1, X.2.1, X.2.2.1, X.2.2.2.1, hts⟩ hM ⟨callB_of n hts hG rfl hrm.1 hrm.2.1 (by rw [hC]; exact hts _ w3) (hts _ hl) hd hrm.2.2, hts _ w1, hts _ w2⟩ ⟨uvBl, vk_recv Y.2.2.2.1 hi V.2, uvPre Y V _⟩ rfl hn hsz hst (lv_room hW) d hc
end UVT
set_option maxRecDepth 100000 in
set_option maxHeartbeats 4000000 in
theorem c_coder (l : Launch) (G : UG) (σ : St) (i : Nat) (hi : i < 2) : Met l yJ0_coder_7d493 (.code yJ0_coder_7d493 cJ0_coder_7d493 1 (some .byte) :: TB) { frames := 0, cells := 0, slots := 0, locals := 0 } (uvPc G σ [.ref (G.2.2.2.1 i)]) (uvQi G 0 σ) 0 0 (uvA G) := by
  refine r_met (own := RJ0) (lv := [(0, .ref (G.2.2.2.1 i))]) (by decide) rfl (Nat.le_of_ble_eq_true rfl) rfl ?_
  intro p e s m below meth c ls X Y V hl
  have hts := X.2.2.2.2.1
  refine va_gets X.1 X.2.1 Y.2.2.2.2.1 V.2 X.2.2.2.1 (hts _ wd_481) (fun _ h => h) dJ0_coder_7d493_0 ?_
  refine lv_if_eq (tgt := 13) X.1 X.2.1 dJ0_coder_7d493_3 (by decide) (fun h => absurd h (by decide)) (fun _ => ?_)
  refine r_aln X dJ0_coder_7d493_6 rfl (lv_at hl 0 rfl) ?_
  refine vk_getf X.1 X.2.1 (Y.2.2.2.1.1 i hi).2.1 V.2 X.2.2.2.1 (hts _ wd_1257) (fun _ h => h) dJ0_coder_7d493_7 ?_
  refine r_goto (tgt := 14) X dJ0_coder_7d493_10 (by decide) ?_
  exact r_rn X V rfl rfl dJ0_coder_7d493_14
set_option maxRecDepth 100000 in
set_option maxHeartbeats 4000000 in
theorem c_isLatin1 (l : Launch) (G : UG) (σ : St) (i : Nat) (hi : i < 2) : Met l yJ0_isLatin1_aae02 (.code yJ0_isLatin1_aae02 cJ0_isLatin1_aae02 1 (some .boolean) :: TB) { frames := 0, cells := 0, slots := 0, locals := 0 } (uvPc G σ [.ref (G.2.2.2.1 i)]) (uvQi G 1 σ) 0 0 (uvA G) := by
  refine r_met (own := RJ0) (lv := [(0, .ref (G.2.2.2.1 i))]) (by decide) rfl (Nat.le_of_ble_eq_true rfl) rfl ?_
  intro p e s m below meth c ls X Y V hl
  have hts := X.2.2.2.2.1
  refine va_gets X.1 X.2.1 Y.2.2.2.2.1 V.2 X.2.2.2.1 (hts _ wd_481) (fun _ h => h) dJ0_isLatin1_aae02_0 ?_
  refine lv_if_eq (tgt := 17) X.1 X.2.1 dJ0_isLatin1_aae02_3 (by decide) (fun h => absurd h (by decide)) (fun _ => ?_)
  refine r_aln X dJ0_isLatin1_aae02_6 rfl (lv_at hl 0 rfl) ?_
  refine vk_getf X.1 X.2.1 (Y.2.2.2.1.1 i hi).2.1 V.2 X.2.2.2.1 (hts _ wd_1257) (fun _ h => h) dJ0_isLatin1_aae02_7 ?_
  refine lv_if_ne (tgt := 17) X.1 X.2.1 dJ0_isLatin1_aae02_10 (by decide) (fun h => absurd rfl h) (fun _ => ?_)
  refine r_ic X dJ0_isLatin1_aae02_13 ?_
  refine r_goto (tgt := 18) X dJ0_isLatin1_aae02_14 (by decide) ?_
  exact r_rn X V rfl rfl dJ0_isLatin1_aae02_18
theorem nat2 {i : Nat} (h : i < 2) : i = 0 ∨ i = 1 := by omega
set_option maxRecDepth 100000 in
set_option maxHeartbeats 4000000 in
theorem c_strlen (l : Launch) (G : UG) (σ : St) (i : Nat) (hi : i < 2) : Met l yJ0_length_8abf5 (.code yJ0_length_8abf5 cJ0_length_8abf5 1 (some .int) :: TB) { frames := 3, cells := 0, slots := 0, locals := 120 } (uvPc G σ [.ref (G.2.2.2.1 i)]) (uvQi G (sLen i) σ) 0 0 (uvA G) := by
  refine r_met (own := RJ0) (lv := [(0, .ref (G.2.2.2.1 i))]) (by decide) rfl (Nat.le_of_ble_eq_true rfl) rfl ?_
  intro p e s m below meth c ls X Y V hl
  have hts := X.2.2.2.2.1
  refine r_aln X dJ0_length_8abf5_0 rfl (lv_at hl 0 rfl) ?_
  refine vk_getf X.1 X.2.1 (Y.2.2.2.1.1 i hi).2.2.1 V.2 X.2.2.2.1 (hts _ wd_1256) (fun _ h => h) dJ0_length_8abf5_1 ?_
  refine va_tlen X.1 X.2.1 (Y.2.2.2.1.1 i hi).2.2.2 V.2 rfl dJ0_length_8abf5_4 ?_
  refine r_aln X dJ0_length_8abf5_5 rfl (lv_at hl 0 rfl) ?_
  refine r_ki V (r_runVS (As := []) (rest := [.int (Int32.ofNat ([3, 4].getD i 0))]) X Y V hi (c_coder l G σ i hi) mv_J0_coder_7d493 wd_477 ⟨rfl, rfl, Nat.le_of_ble_eq_true rfl, Nat.le_of_ble_eq_true rfl⟩ rfl rfl hl.1 (Nat.le_of_ble_eq_true rfl) ⟨Nat.le_refl 0, Nat.le_refl 0⟩ dJ0_length_8abf5_6) (fun H locs V => ?_)
  refine lv_ishr X.1 X.2.1 dJ0_length_8abf5_9 ?_
  refine r_rn X V rfl ?_ dJ0_length_8abf5_10
  rcases nat2 hi with rfl | rfl <;> decide
set_option maxRecDepth 100000 in
set_option maxHeartbeats 4000000 in
theorem c_checkIndexP (l : Launch) (G : UG) (σ : St) (x y : Int) (v : Value) (hv : v.category = 1) (h0 : ¬ wI x < 0) (h1 : wI x < wI y) : Met l yJ3_checkIndex_8e157 (.code yJ3_checkIndex_8e157 cJ3_checkIndex_8e157 3 (some .int) :: TB) { frames := 0, cells := 0, slots := 0, locals := 0 } (uvPc G σ [.int (iV x), .int (iV y), v]) (uvQi G x σ) 0 0 (uvA G) := by
  have hsl : (lg_sl [.int (iV x), .int (iV y), v]).length ≤ 3 := by
    have : ¬ v.category = 2 := by rw [hv]; decide
    simp [lg_sl, this, show (Value.int (iV x)).category = 1 from rfl, show (Value.int (iV y)).category = 1 from rfl]
  refine r_met (own := RJ3) (lv := [(0, .int (iV x)), (1, .int (iV y)), (2, v)]) (by decide) rfl hsl rfl ?_
  intro p e s m below meth c ls X Y V hl
  refine r_iln X dJ3_checkIndex_8e157_0 rfl (lv_at hl 0 rfl) ?_
  refine r_lt (tgt := 9) X rfl dJ3_checkIndex_8e157_1 (by decide) (fun h => absurd h h0) (fun _ => ?_)
  refine r_iln X dJ3_checkIndex_8e157_4 rfl (lv_at hl 0 rfl) ?_
  refine r_iln X dJ3_checkIndex_8e157_5 rfl (lv_at hl 1 rfl) ?_
  refine r_clt (tgt := 16) X rfl rfl dJ3_checkIndex_8e157_6 (by decide) (fun _ => ?_) (fun h => absurd h1 h)
  refine r_iln X dJ3_checkIndex_8e157_16 rfl (lv_at hl 0 rfl) ?_
  exact r_ri X V rfl rfl dJ3_checkIndex_8e157_17
set_option maxRecDepth 100000 in
set_option maxHeartbeats 4000000 in
theorem c_checkIndexS (l : Launch) (G : UG) (σ : St) (x y : Int) (h0 : ¬ wI x < 0) (h1 : wI x < wI y) : Met l yJ0_checkIndex_df160 (.code yJ0_checkIndex_df160 cJ0_checkIndex_df160 2 none :: TB) { frames := 1, cells := 0, slots := 0, locals := 22 } (uvPc G σ [.int (iV x), .int (iV y)]) (uvQv G σ) 0 0 (uvA G) := by
  refine r_met (own := RJ0) (lv := [(0, .int (iV x)), (1, .int (iV y))]) (by decide) rfl (Nat.le_of_ble_eq_true rfl) rfl ?_
  intro p e s m below meth c ls X Y V hl
  have hts := X.2.2.2.2.1
  obtain ⟨v, hv, hZ⟩ := Y.2.2.2.2.2
  have hvc : v.category = 1 := by rcases hv with rfl | ⟨a, rfl⟩ <;> rfl
  refine r_iln X dJ0_checkIndex_df160_0 rfl (lv_at hl 0 rfl) ?_
  refine r_iln X dJ0_checkIndex_df160_1 rfl (lv_at hl 1 rfl) ?_
  refine va_gets X.1 X.2.1 hZ V.2 X.2.2.2.1 (hts _ wd_501) (fun _ h => h) dJ0_checkIndex_df160_2 ?_
  refine r_ki V (r_runS (As := [.int (iV x), .int (iV y), v]) (rest := []) X Y V (c_checkIndexP l G σ x y v hvc h0 h1) ms_J3_checkIndex_8e157 wd_503 ⟨rfl, rfl, Nat.le_of_ble_eq_true rfl, Nat.le_of_ble_eq_true rfl⟩ rfl rfl hl.1 (Nat.le_of_ble_eq_true rfl) ⟨Nat.le_refl 0, Nat.le_refl 0⟩ dJ0_checkIndex_df160_5) (fun H locs V => ?_)
  refine r_pop X dJ0_checkIndex_df160_8 rfl ?_
  exact r_rv X V rfl dJ0_checkIndex_df160_9
theorem sl_rng (i : Nat) : 3 ≤ sLen i ∧ sLen i ≤ 4 := by
  unfold sLen
  by_cases h : (i : Int) = 0
  · rw [if_pos h]; omega
  · rw [if_neg h]; omega
set_option maxRecDepth 100000 in
set_option maxHeartbeats 4000000 in
theorem c_l1charAt (l : Launch) (G : UG) (σ : St) (i : Nat) (hi : i < 2) (k : Int) (hk : 0 ≤ k ∧ k < sLen i) : Met l yJ1_charAt_3b067 (.code yJ1_charAt_3b067 cJ1_charAt_3b067 2 (some .char) :: TB) { frames := 2, cells := 0, slots := 0, locals := 43 } (uvPc G σ [.ref (G.2.2.2.2 i), .int (iV k)]) (uvQi G (sChr i k) σ) 0 0 (uvA G) := by
  refine r_met (own := RJ1) (lv := [(0, .ref (G.2.2.2.2 i)), (1, .int (iV k))]) (by decide) rfl (Nat.le_of_ble_eq_true rfl) rfl ?_
  intro p e s m below meth c ls X Y V hl
  have hts := X.2.2.2.2.1
  have hr := sl_rng i
  have hwk : wI k = k := wI_id (by omega) (by omega)
  have hln : Int32.ofNat ([3, 4].getD i 0) = iV (sLen i) := by rcases nat2 hi with rfl | rfl <;> decide
  have hln2 : (([3, 4].getD i 0 : Nat) : Int) = sLen i := by rcases nat2 hi with rfl | rfl <;> decide
  have hws : wI (sLen i) = sLen i := wI_id (by omega) (by omega)
  refine r_iln X dJ1_charAt_3b067_0 rfl (lv_at hl 1 rfl) ?_
  refine r_aln X dJ1_charAt_3b067_1 rfl (lv_at hl 0 rfl) ?_
  refine va_tlen X.1 X.2.1 (Y.2.2.2.1.1 i hi).2.2.2 V.2 hln dJ1_charAt_3b067_2 ?_
  refine r_kv V (r_runS (As := [.int (iV k), .int (iV (sLen i))]) (rest := []) X Y V (c_checkIndexS l G σ k (sLen i) (by rw [hwk]; omega) (by rw [hwk, hws]; omega)) ms_J0_checkIndex_df160 wd_498 ⟨rfl, rfl, Nat.le_of_ble_eq_true rfl, Nat.le_of_ble_eq_true rfl⟩ rfl rfl hl.1 (Nat.le_of_ble_eq_true rfl) ⟨Nat.le_refl 0, Nat.le_refl 0⟩ dJ1_charAt_3b067_3) (fun H locs V => ?_)
  refine r_aln X dJ1_charAt_3b067_6 rfl (lv_at hl 0 rfl) ?_
  refine r_iln X dJ1_charAt_3b067_7 rfl (lv_at hl 1 rfl) ?_
  refine va_tb X.1 X.2.1 (Y.2.2.2.1.1 i hi).2.2.2 V.2 (i := iV k) (iV_in (by rw [hln2]; exact hk) (by omega)) rfl dJ1_charAt_3b067_8 ?_
  refine r_sp X dJ1_charAt_3b067_9 (by decide) ?_
  refine lv_iand X.1 X.2.1 dJ1_charAt_3b067_12 ?_
  refine lv_i2c X.1 X.2.1 dJ1_charAt_3b067_13 rfl ?_
  have hcl : (iV k).toNatClampNeg = k.toNat := iV_clamp (n := [3, 4].getD i 0) (by rw [hln2]; exact hk) (by omega)
  have hval : ((((([[114, 111, 119], [116, 114, 101, 101]] : List (List Int32)).getD i []).getD (iV k).toNatClampNeg 0) &&& iV 255).toUInt32 % 65536).toInt32 = iV (sChr i k) := by
    rw [hcl]
    rcases nat2 hi with rfl | rfl
    · have : k = 0 ∨ k = 1 ∨ k = 2 := by have : sLen ((0 : Nat) : Int) = 3 := rfl; omega
      rcases this with rfl | rfl | rfl <;> decide
    · have : k = 0 ∨ k = 1 ∨ k = 2 ∨ k = 3 := by have : sLen ((1 : Nat) : Int) = 4 := rfl; omega
      rcases this with rfl | rfl | rfl | rfl <;> decide
  rw [hval]
  refine r_rn X V ?_ rfl dJ1_charAt_3b067_14
  rcases nat2 hi with rfl | rfl
  · have : k = 0 ∨ k = 1 ∨ k = 2 := by have : sLen ((0 : Nat) : Int) = 3 := rfl; omega
    rcases this with rfl | rfl | rfl <;> rfl
  · have : k = 0 ∨ k = 1 ∨ k = 2 ∨ k = 3 := by have : sLen ((1 : Nat) : Int) = 4 := rfl; omega
    rcases this with rfl | rfl | rfl | rfl <;> rfl
set_option maxRecDepth 100000 in
set_option maxHeartbeats 4000000 in
theorem c_strchr (l : Launch) (G : UG) (σ : St) (i : Nat) (hi : i < 2) (k : Int) (hk : 0 ≤ k ∧ k < sLen i) : Met l yJ0_charAt_5068e (.code yJ0_charAt_5068e cJ0_charAt_5068e 2 (some .char) :: TB) { frames := 3, cells := 0, slots := 0, locals := 120 } (uvPc G σ [.ref (G.2.2.2.1 i), .int (iV k)]) (uvQi G (sChr i k) σ) 0 0 (uvA G) := by
  refine r_met (own := RJ0) (lv := [(0, .ref (G.2.2.2.1 i)), (1, .int (iV k))]) (by decide) rfl (Nat.le_of_ble_eq_true rfl) rfl ?_
  intro p e s m below meth c ls X Y V hl
  have hts := X.2.2.2.2.1
  refine r_aln X dJ0_charAt_5068e_0 rfl (lv_at hl 0 rfl) ?_
  refine r_ki V (r_runVS (As := []) (rest := []) X Y V hi (c_isLatin1 l G σ i hi) mv_J0_isLatin1_aae02 wd_491 ⟨rfl, rfl, Nat.le_of_ble_eq_true rfl, Nat.le_of_ble_eq_true rfl⟩ rfl rfl hl.1 (Nat.le_of_ble_eq_true rfl) ⟨Nat.le_refl 0, Nat.le_refl 0⟩ dJ0_charAt_5068e_1) (fun H locs V => ?_)
  refine r_eq (tgt := 16) X rfl dJ0_charAt_5068e_4 (by decide) (fun h => absurd h (by decide)) (fun _ => ?_)
  refine r_aln X dJ0_charAt_5068e_7 rfl (lv_at hl 0 rfl) ?_
  refine vk_getf X.1 X.2.1 (Y.2.2.2.1.1 i hi).2.2.1 V.2 X.2.2.2.1 (hts _ wd_1256) (fun _ h => h) dJ0_charAt_5068e_8 ?_
  refine r_iln X dJ0_charAt_5068e_11 rfl (lv_at hl 1 rfl) ?_
  refine r_ki V (r_runS (As := [.ref (G.2.2.2.2 i), .int (iV k)]) (rest := []) X Y V (c_l1charAt l G σ i hi k hk) ms_J1_charAt_3b067 wd_495 ⟨rfl, rfl, Nat.le_of_ble_eq_true rfl, Nat.le_of_ble_eq_true rfl⟩ rfl rfl hl.1 (Nat.le_of_ble_eq_true rfl) ⟨Nat.le_refl 0, Nat.le_refl 0⟩ dJ0_charAt_5068e_12) (fun H locs V => ?_)
  refine r_rn X V ?_ rfl dJ0_charAt_5068e_15
  rcases nat2 hi with rfl | rfl
  · have : k = 0 ∨ k = 1 ∨ k = 2 := by have : sLen ((0 : Nat) : Int) = 3 := rfl; omega
    rcases this with rfl | rfl | rfl <;> rfl
  · have : k = 0 ∨ k = 1 ∨ k = 2 ∨ k = 3 := by have : sLen ((1 : Nat) : Int) = 4 := rfl; omega
    rcases this with rfl | rfl | rfl | rfl <;> rfl
section UVU
variable {p : Program} {l : Launch} {e : Env} {R : Room} {s : State} {m : MethodId} {args : Array Value} {below : List Frame} {meth : Method} {c : Code} {H : Heap} {locs : List Loc} {cells slots : Nat} {Q : State → Prop}
variable {cc : ByteArray} {nL : Nat} {own : String} {rt : Option FieldType} {pc : Nat} {ls : Array Slot} {rest : List Value} {G : UG} {σ : St}
theorem r_lds0 (X : uvCx p m c cc nL "UnitVoices$Text" s args meth rt) (Y : uvGd G s s.heap) (d : decode cc pc = .ok (.ldc 63, 2)) (k : W p l e R s m args below meth c H locs cells slots Q (F0 m (pc + 2) ls (.ref (G.2.2.2.1 (0 : Int).toNat) :: rest))) : W p l e R s m args below meth c H locs cells slots Q (F0 m pc ls rest) :=
  va_ldcS X.1 X.2.1 X.2.2.2.1 Y.2.2.1.1 d k
theorem r_lds1 (X : uvCx p m c cc nL "UnitVoices$Text" s args meth rt) (Y : uvGd G s s.heap) (d : decode cc pc = .ok (.ldc 84, 2)) (k : W p l e R s m args below meth c H locs cells slots Q (F0 m (pc + 2) ls (.ref (G.2.2.2.1 (1 : Int).toNat) :: rest))) : W p l e R s m args below meth c H locs cells slots Q (F0 m pc ls rest) :=
  va_ldcS X.1 X.2.1 X.2.2.2.1 Y.2.2.1.2.1 d k
theorem r_slen (X : uvCx p m c cc nL own s args meth rt) (Y : uvGd G s s.heap) (V : uvWo G σ s H locs) {w : Int} {index : Nat} (hw : w = 0 ∨ w = 1) (hl : Cond.methodLink own index yJ0_length_8abf5 ∈ TB) (hf : 4 ≤ R.frames) (hlo : 140 ≤ R.locals) (hsz : ls.size = nL) (hW : (rest.map fun v => v.category).sum ≤ 8) (hc : cells ≤ R.cells ∧ slots ≤ R.slots) (d : decode cc pc = .ok (.invokevirtual index, 3))
    (kk : ∀ (H1 : Heap) (locs1 : List Loc), uvWo G σ s H1 locs1 → W p l e R s m args below meth c H1 locs1 cells slots Q (F0 m (pc + 3) ls (.int (iV (sLen w)) :: rest))) : W p l e R s m args below meth c H locs cells slots Q (F0 m pc ls (.ref (G.2.2.2.1 w.toNat) :: rest)) := by
  have hi : w.toNat < 2 := by omega
  have he : ((w.toNat : Nat) : Int) = w := by omega
  have hM := c_strlen l G σ w.toNat hi
  rw [he] at hM
  exact r_ki V (r_runVS (As := []) (rest := rest) X Y V hi hM mv_J0_length_8abf5 hl ⟨rfl, rfl, hf, hlo⟩ rfl rfl hsz hW hc d) kk
theorem r_schr (X : uvCx p m c cc nL own s args meth rt) (Y : uvGd G s s.heap) (V : uvWo G σ s H locs) {w k : Int} {index : Nat} (hw : w = 0 ∨ w = 1) (hk : 0 ≤ k ∧ k < sLen w) (hl : Cond.methodLink own index yJ0_charAt_5068e ∈ TB) (hf : 4 ≤ R.frames) (hlo : 141 ≤ R.locals) (hsz : ls.size = nL) (hW : (rest.map fun v => v.category).sum ≤ 8) (hc : cells ≤ R.cells ∧ slots ≤ R.slots) (d : decode cc pc = .ok (.invokevirtual index, 3))
    (kk : ∀ (H1 : Heap) (locs1 : List Loc), uvWo G σ s H1 locs1 → W p l e R s m args below meth c H1 locs1 cells slots Q (F0 m (pc + 3) ls (.int (iV (sChr w k)) :: rest))) : W p l e R s m args below meth c H locs cells slots Q (F0 m pc ls (.int (iV k) :: .ref (G.2.2.2.1 w.toNat) :: rest)) := by
  have hi : w.toNat < 2 := by omega
  have he : ((w.toNat : Nat) : Int) = w := by omega
  have hM := c_strchr l G σ w.toNat hi k (by rw [he]; exact hk)
  rw [he] at hM
  exact r_ki V (r_runVS (As := [.int (iV k)]) (rest := rest) X Y V hi hM mv_J0_charAt_5068e hl ⟨rfl, rfl, hf, hlo⟩ rfl rfl hsz hW hc d) kk
end UVU
end
section
def f_X4_leftOf (σ0 : St) (o : Int) (a1 : Int) : Option Int :=
if 0 < wI a1 then
  if wI a1 < wI (σ0 o 3) then
    rdA 8 σ0 (o + 1) (a1 - 1) fun v3 =>
    some v3
  else
    some 6
else
  some 6
def f_X4_rightOf (σ0 : St) (o : Int) (a1 : Int) : Option Int :=
if wI a1 < 0 then
  some 6
else
  if wI a1 < wI ((σ0 o 3) - 1) then
    rdA 8 σ0 (o + 1) (a1 + 1) fun v3 =>
    some v3
  else
    some 6
def f_X3_besidePart (σ0 : St) (a1 : Int) (a2 : Int) : Option Int :=
rdA 40 σ0 3 a1 fun v1 =>
bd1 (f_X4_leftOf σ0 10 a2) fun v2 =>
bnd (if wI v1 = wI v2 then 0 else 2) fun v4 =>
rdA 40 σ0 4 a1 fun v5 =>
bd1 (f_X4_rightOf σ0 10 a2) fun v6 =>
bnd (if wI v5 = wI v6 then 0 else 2) fun v8 =>
some (v4 + v8)
def f_X3_ofFit (σ0 : St) (a1 : Int) (a2 : Int) (a3 : Int) : Option Int :=
rdA 40 σ0 5 a2 fun v1 =>
rdA 8 σ0 12 a3 fun v2 =>
bnd (f_J9_abs_0f7a4 (v1 - v2)) fun v3 =>
rdA 40 σ0 6 a2 fun v4 =>
rdA 8 σ0 13 a3 fun v5 =>
bnd (v3 + (f_J9_abs_0f7a4 (v4 - v5))) fun v6 =>
if wI a1 = 1 then
  bd1 (f_X3_besidePart σ0 a2 a3) fun v8 =>
  some (v6 + v8)
else
  if wI a1 = 2 then
    some (v6 + v3)
  else
    if wI a1 = 3 then
      bd1 (f_X3_besidePart σ0 a2 a3) fun v11 =>
      some (2 * (v6 + v11))
    else
      if wI a1 = 4 then
        some (divI (v6 + v3) 2)
      else
        some v6
def f_X5_begin (σ : St) (o : Int) (a1 : Int) : Option (Int × St) :=
wrA (uvLn (o + 1)) σ (o + 1) a1 1000000 fun σ1 =>
wrA (uvLn (o + 2)) σ1 (o + 2) a1 1000000 fun σ2 =>
wrA (uvLn (o + 3)) σ2 (o + 3) a1 0 fun σ3 =>
wrA (uvLn (o + 4)) σ3 (o + 4) a1 0 fun σ4 =>
wrA (uvLn (o + 5)) σ4 (o + 5) a1 0 fun σ5 =>
some (0, σ5)
def f_X5_offer (σ : St) (o : Int) (a1 : Int) (a2 : Int) (a3 : Int) (a4 : Int) : Option (Int × St) :=
rdA (uvLn (a3 + 1)) σ (a3 + 1) a4 fun v1 =>
bnd (a2 + v1) fun v2 =>
rdA (uvLn (o + 3)) σ (o + 3) a1 fun v3 =>
rdA (uvLn (a3 + 3)) σ (a3 + 3) a4 fun v4 =>
wrA (uvLn (o + 3)) σ (o + 3) a1 (f_J9_max_7cf53 v3 (a2 + v4)) fun σ5 =>
rdA (uvLn (o + 1)) σ5 (o + 1) a1 fun v6 =>
if wI v2 < wI v6 then
  rdA (uvLn (o + 1)) σ5 (o + 1) a1 fun v8 =>
  rdA (uvLn (a3 + 2)) σ5 (a3 + 2) a4 fun v9 =>
  wrA (uvLn (o + 2)) σ5 (o + 2) a1 (f_J9_min_7cf53 v8 (a2 + v9)) fun σ10 =>
  wrA (uvLn (o + 1)) σ10 (o + 1) a1 v2 fun σ11 =>
  rdA (uvLn (a3 + 4)) σ11 (a3 + 4) a4 fun v12 =>
  wrA (uvLn (o + 4)) σ11 (o + 4) a1 v12 fun σ13 =>
  wrA (uvLn (o + 5)) σ13 (o + 5) a1 a4 fun σ14 =>
  some (0, σ14)
else
  rdA (uvLn (o + 2)) σ5 (o + 2) a1 fun v15 =>
  wrA (uvLn (o + 2)) σ5 (o + 2) a1 (f_J9_min_7cf53 v15 v2) fun σ16 =>
  rdA (uvLn (o + 1)) σ16 (o + 1) a1 fun v17 =>
  if wI v2 = wI v17 then
    rdA (uvLn (o + 4)) σ16 (o + 4) a1 fun v19 =>
    rdA (uvLn (a3 + 4)) σ16 (a3 + 4) a4 fun v20 =>
    wrA (uvLn (o + 4)) σ16 (o + 4) a1 (f_J9_min_7cf53 1000000000 (v19 + v20)) fun σ21 =>
    some (0, σ21)
  else
    some (0, σ16)
def f_X3_ofJoint (σ0 : St) (a1 : Int) (a2 : Int) : Option Int :=
rdA 40 σ0 8 a1 fun v1 =>
if wI v1 = wI a2 then
  some 0
else
  rdA 40 σ0 4 a1 fun v3 =>
  rdA 40 σ0 2 a2 fun v4 =>
  bnd (if wI v3 = wI v4 then 0 else 2) fun v6 =>
  rdA 40 σ0 3 a2 fun v7 =>
  rdA 40 σ0 2 a1 fun v8 =>
  bnd (if wI v7 = wI v8 then 0 else 2) fun v10 =>
  rdA 40 σ0 5 a1 fun v11 =>
  rdA 40 σ0 5 a2 fun v12 =>
  some (((3 + (f_J9_abs_0f7a4 (v11 - v12))) + v6) + v10)
def lp_X0_weighEntry_80 (x2 : Int) (x3 : Int) (x4 : Int) (x5 : Int) (x6 : Int) (kx : St → Option (Int × St)) : Nat → St → Int → Option (Int × St)
  | 0, _, _ => none
  | n + 1, σ, x7 =>
    if wI x7 < wI (σ x6 1) then
      rdA 40 σ (x6 + 1) x7 fun v10 =>
      bd1 (f_X3_ofJoint σ x4 v10) fun v11 =>
      ixA 8 x2 <|
      ixA 8 (x2 + 1) <|
      bd2 (f_X5_offer σ (70 + 6 * x2) x3 (x5 + v11) (70 + 6 * (x2 + 1)) x7) fun v14 σ15 =>
      lp_X0_weighEntry_80 x2 x3 x4 x5 x6 kx n σ15 (x7 + 1)
    else
      kx σ
def f_X0_weighEntry (σ : St) (a1 : Int) (a2 : Int) (a3 : Int) : Option (Int × St) :=
ixA 8 a2 <|
rdA 40 σ (38 + 2 * a2 + 1) a3 fun v2 =>
bd1 (f_X3_ofFit σ a1 v2 a2) fun v3 =>
ixA 8 a2 <|
bd2 (f_X5_begin σ (70 + 6 * a2) a3) fun v5 σ6 =>
if wI (a2 + 1) < wI (σ6 10 3) then
  ixA 8 (a2 + 1) <|
  lp_X0_weighEntry_80 a2 a3 v2 v3 (38 + 2 * (a2 + 1)) (fun σ16 =>
      some (0, σ16)) 200 σ6 0
else
  ixA 8 a2 <|
  bd2 (f_X5_offer σ6 (70 + 6 * a2) a3 v3 63 0) fun v18 σ19 =>
  some (0, σ19)
def lp_X0_weigh_16 (x1 : Int) (x2 : Int) (kx : St → Option (Int × St)) : Nat → St → Int → Option (Int × St)
  | 0, _, _ => none
  | n + 1, σ, x3 =>
    ixA 8 x2 <|
    if wI x3 < wI (σ (38 + 2 * x2) 1) then
      bd2 (f_X0_weighEntry σ x1 x2 x3) fun v5 σ6 =>
      lp_X0_weigh_16 x1 x2 kx n σ6 (x3 + 1)
    else
      kx σ
def lp_X0_weigh_10 (x1 : Int) (kx : St → Option (Int × St)) : Nat → St → Int → Option (Int × St)
  | 0, _, _ => none
  | n + 1, σ, x2 =>
    if wI x2 < 0 then
      kx σ
    else
      lp_X0_weigh_16 x1 x2 (fun σ7 =>
          lp_X0_weigh_10 x1 kx n σ7 (x2 + (-1))) 200 σ 0
def lp_X0_weigh_58 (kx : St → Option (Int × St)) : Nat → St → Int → Option (Int × St)
  | 0, _, _ => none
  | n + 1, σ, x2 =>
    ixA 8 0 <|
    if wI x2 < wI (σ (38 + 2 * 0) 1) then
      ixA 8 0 <|
      bd2 (f_X5_offer σ 57 0 0 (70 + 6 * 0) x2) fun v14 σ15 =>
      lp_X0_weigh_58 kx n σ15 (x2 + 1)
    else
      kx σ
def f_X0_weigh (σ : St) (a1 : Int) : Option (Int × St) :=
bnd ((σ 10 3) - 1) fun v1 =>
lp_X0_weigh_10 a1 (fun σ8 =>
    bd2 (f_X5_begin σ8 57 0) fun v9 σ10 =>
    lp_X0_weigh_58 (fun σ16 =>
        some (0, σ16)) 200 σ10 0) 200 σ v1
def lp_X0_trace_12 (kx : St → Option (Int × St)) : Nat → St → Int → Int → Option (Int × St)
  | 0, _, _, _ => none
  | n + 1, σ, x1, x2 =>
    if wI x2 < wI (σ 10 3) then
      ixA 8 x2 <|
      if wI x1 < wI (σ (38 + 2 * x2) 1) then
        ixA 8 x2 <|
        rdA 40 σ (38 + 2 * x2 + 1) x1 fun v6 =>
        wrA 8 σ 69 x2 v6 fun σ7 =>
        ixA 8 x2 <|
        rdA (uvLn (70 + 6 * x2 + 5)) σ7 (70 + 6 * x2 + 5) x1 fun v9 =>
        lp_X0_trace_12 kx n σ7 v9 (x2 + 1)
      else
        kx σ
    else
      kx σ
def f_X0_trace (σ : St)  : Option (Int × St) :=
rdA 1 σ 62 0 fun v1 =>
lp_X0_trace_12 (fun σ10 =>
    some (0, σ10)) 200 σ v1 0
def f_X0_leastPrice (σ0 : St)  : Option Int :=
rdA 1 σ0 58 0 fun v1 =>
some v1
def f_X0_secondPrice (σ0 : St)  : Option Int :=
rdA 1 σ0 59 0 fun v1 =>
if wI v1 < 1000000 then
  rdA 1 σ0 59 0 fun v3 =>
  some v3
else
  some (-1)
def f_X0_mostPrice (σ0 : St)  : Option Int :=
rdA 1 σ0 60 0 fun v1 =>
some v1
def f_X0_waysOfLeast (σ0 : St)  : Option Int :=
rdA 1 σ0 61 0 fun v1 =>
some v1
def lp_X0_pathFollowers_4 (σ0 : St) (kx : Int → Option Int) : Nat → Int → Int → Option Int
  | 0, _, _ => none
  | n + 1, x2, x3 =>
    if wI x3 < wI (σ0 10 3) then
      rdA 8 σ0 69 (x3 - 1) fun v2 =>
      rdA 40 σ0 8 v2 fun v3 =>
      rdA 8 σ0 69 x3 fun v4 =>
      if wI v3 = wI v4 then
        lp_X0_pathFollowers_4 σ0 kx n (x2 + 1) (x3 + 1)
      else
        lp_X0_pathFollowers_4 σ0 kx n x2 (x3 + 1)
    else
      kx x2
def f_X0_pathFollowers (σ0 : St)  : Option Int :=
lp_X0_pathFollowers_4 σ0 (fun y6 =>
    some y6) 200 0 1
def lp_X0_pathFits_4 (σ0 : St) (x1 : Int) (kx : Int → Option Int) : Nat → Int → Int → Option Int
  | 0, _, _ => none
  | n + 1, x2, x3 =>
    if wI x3 < wI (σ0 10 3) then
      rdA 8 σ0 69 x3 fun v2 =>
      bd1 (f_X3_ofFit σ0 x1 v2 x3) fun v3 =>
      bnd (x2 + v3) fun v4 =>
      lp_X0_pathFits_4 σ0 x1 kx n v4 (x3 + 1)
    else
      kx x2
def f_X0_pathFits (σ0 : St) (a1 : Int) : Option Int :=
lp_X0_pathFits_4 σ0 a1 (fun y5 =>
    some y5) 200 0 0
def lp_X0_pathJoints_4 (σ0 : St) (kx : Int → Option Int) : Nat → Int → Int → Option Int
  | 0, _, _ => none
  | n + 1, x1, x2 =>
    if wI x2 < wI (σ0 10 3) then
      rdA 8 σ0 69 (x2 - 1) fun v2 =>
      rdA 8 σ0 69 x2 fun v3 =>
      bd1 (f_X3_ofJoint σ0 v2 v3) fun v4 =>
      bnd (x1 + v4) fun v5 =>
      lp_X0_pathJoints_4 σ0 kx n v5 (x2 + 1)
    else
      kx x1
def f_X0_pathJoints (σ0 : St)  : Option Int :=
lp_X0_pathJoints_4 σ0 (fun y6 =>
    some y6) 200 0 1
def lp_X0_dearestPathJoint_4 (σ0 : St) (kx : Int → Option Int) : Nat → Int → Int → Option Int
  | 0, _, _ => none
  | n + 1, x1, x2 =>
    if wI x2 < wI (σ0 10 3) then
      rdA 8 σ0 69 (x2 - 1) fun v2 =>
      rdA 8 σ0 69 x2 fun v3 =>
      bd1 (f_X3_ofJoint σ0 v2 v3) fun v4 =>
      bnd (f_J9_max_7cf53 x1 v4) fun v5 =>
      lp_X0_dearestPathJoint_4 σ0 kx n v5 (x2 + 1)
    else
      kx x1
def f_X0_dearestPathJoint (σ0 : St)  : Option Int :=
lp_X0_dearestPathJoint_4 σ0 (fun y6 =>
    some y6) 200 0 1
def f_X1_begin (σ : St) (o : Int) : Option (Int × St) :=
wrF σ o 1 0 fun σ1 =>
wrF σ1 o 2 0 fun σ2 =>
wrF σ2 o 3 0 fun σ3 =>
some (0, σ3)
def f_X1_add (σ : St) (o : Int) (a1 : Int) : Option (Int × St) :=
if wI (σ o 1) < 0 then
  some (0, σ)
else
  if wI (σ o 1) < 40 then
    wrA 40 σ (o + 1) (σ o 1) a1 fun σ3 =>
    wrF σ3 o 1 ((σ3 o 1) + 1) fun σ4 =>
    some (0, σ4)
  else
    some (0, σ)
def f_X1_miss (σ : St) (o : Int) : Option (Int × St) :=
wrF σ o 1 0 fun σ1 =>
wrF σ1 o 2 (-1) fun σ2 =>
some (0, σ2)
def f_X1_isMissing (σ0 : St) (o : Int) : Int :=
(if wI (σ0 o 2) = (-1) then 1 else 0)
def f_X7_saysYes (σ0 : St) (o : Int) (a1 : Int) (a2 : Int) (a3 : Int) (a4 : Int) (a5 : Int) : Option Int :=
rdA 120 σ0 (o + 1) a1 fun v1 =>
if wI v1 = 76 then
  rdA 120 σ0 (o + 2) a1 fun v3 =>
  some (if wI a2 = wI v3 then 1 else 0)
else
  if wI v1 = 80 then
    rdA 120 σ0 (o + 2) a1 fun v7 =>
    some (if wI v7 < wI a4 then 1 else 0)
  else
    if wI v1 = 82 then
      rdA 120 σ0 (o + 2) a1 fun v11 =>
      some (if wI a3 = wI v11 then 1 else 0)
    else
      rdA 120 σ0 (o + 2) a1 fun v14 =>
      some (if wI v14 < wI a5 then 1 else 0)
def f_X7_isNode (σ0 : St) (o : Int) (a1 : Int) : Int :=
(if wI a1 < 0 then 0 else (if wI a1 < wI (σ0 o 6) then 1 else 0))
def jn_X7_leafFor_56 (σ0 : St) (kb : Int → Int → Option Int) (o : Int) (x1 : Int) (x2 : Int) (x3 : Int) (x4 : Int) (x5 : Int) (x6 : Int) (t0 : Int) : Option Int :=
  if (f_X7_isNode σ0 o t0) = 0 then
    some x5
  else
    kb t0 (x6 + 1)
def lp_X7_leafFor_6 (σ0 : St) (o : Int) (x1 : Int) (x2 : Int) (x3 : Int) (x4 : Int) (kx : Int → Option Int) : Nat → Int → Int → Option Int
  | 0, _, _ => none
  | n + 1, x5, x6 =>
    if wI x6 < 7 then
      rdA 120 σ0 (o + 1) x5 fun v2 =>
      if wI v2 = 42 then
        kx x5
      else
        bd1 (f_X7_saysYes σ0 o x5 x1 x2 x3 x4) fun v4 =>
        if v4 = 0 then
          rdA 120 σ0 (o + 5) x5 fun v7 =>
          jn_X7_leafFor_56 σ0 (lp_X7_leafFor_6 σ0 o x1 x2 x3 x4 kx n) o x1 x2 x3 x4 x5 x6 v7
        else
          rdA 120 σ0 (o + 4) x5 fun v10 =>
          jn_X7_leafFor_56 σ0 (lp_X7_leafFor_6 σ0 o x1 x2 x3 x4 kx n) o x1 x2 x3 x4 x5 x6 v10
    else
      kx x5
def f_X7_leafFor (σ0 : St) (o : Int) (a1 : Int) (a2 : Int) (a3 : Int) (a4 : Int) : Option Int :=
lp_X7_leafFor_6 σ0 o a1 a2 a3 a4 (fun y11 =>
    some y11) 200 0 0
def f_X2_leafOfUnit (σ0 : St) (a1 : Int) : Option Int :=
rdA 40 σ0 3 a1 fun v1 =>
rdA 40 σ0 4 a1 fun v2 =>
rdA 40 σ0 5 a1 fun v3 =>
rdA 40 σ0 6 a1 fun v4 =>
bd1 (f_X7_leafFor σ0 14 v1 v2 v3 v4) fun v5 =>
some v5
def f_X2_leafOfTarget (σ0 : St) (a1 : Int) : Option Int :=
bd1 (f_X4_leftOf σ0 10 a1) fun v1 =>
bd1 (f_X4_rightOf σ0 10 a1) fun v2 =>
rdA 8 σ0 12 a1 fun v3 =>
rdA 8 σ0 13 a1 fun v4 =>
bd1 (f_X7_leafFor σ0 14 v1 v2 v3 v4) fun v5 =>
some v5
def lp_X2_findLeaves_2 (kx : St → Option (Int × St)) : Nat → St → Int → Option (Int × St)
  | 0, _, _ => none
  | n + 1, σ, x1 =>
    if wI x1 < wI (σ 1 8) then
      bd1 (f_X2_leafOfUnit σ x1) fun v2 =>
      wrA 40 σ 36 x1 v2 fun σ3 =>
      lp_X2_findLeaves_2 kx n σ3 (x1 + 1)
    else
      kx σ
def f_X2_findLeaves (σ : St)  : Option (Int × St) :=
lp_X2_findLeaves_2 (fun σ4 =>
    some (0, σ4)) 200 σ 0
def f_X7_nodeAbove (σ0 : St) (o : Int) (a1 : Int) : Option Int :=
if wI a1 < 0 then
  some (-1)
else
  if wI a1 < wI (σ0 o 6) then
    rdA 120 σ0 (o + 3) a1 fun v3 =>
    some v3
  else
    some (-1)
def lp_X7_liesUnder_5 (σ0 : St) (o : Int) (x2 : Int) (kx : Int → Option Int) : Nat → Int → Int → Option Int
  | 0, _, _ => none
  | n + 1, x3, x4 =>
    if wI x4 < 7 then
      if wI x3 = wI x2 then
        kx x3
      else
        if wI x3 = (-1) then
          kx x3
        else
          bd1 (f_X7_nodeAbove σ0 o x3) fun v4 =>
          lp_X7_liesUnder_5 σ0 o x2 kx n v4 (x4 + 1)
    else
      kx x3
def jn_X7_liesUnder_34 (σ0 : St) (x2 : Int) (x3 : Int) : Option Int :=
  some (if wI x3 = wI x2 then 1 else 0)
def f_X7_liesUnder (σ0 : St) (o : Int) (a1 : Int) (a2 : Int) : Option Int :=
lp_X7_liesUnder_5 σ0 o a2 (fun y5 =>
    jn_X7_liesUnder_34 σ0 a2 y5) 200 a1 0
def lp_X2_gather_3 (x1 : Int) (x2 : Int) (x3 : Int) (x4 : Int) (kx : St → Option (Int × St)) : Nat → St → Int → Option (Int × St)
  | 0, _, _ => none
  | n + 1, σ, x5 =>
    if wI x5 < wI (σ 1 8) then
      if wI x5 = wI x4 then
        lp_X2_gather_3 x1 x2 x3 x4 kx n σ (x5 + 1)
      else
        rdA 40 σ 2 x5 fun v3 =>
        if wI v3 = wI x2 then
          rdA 40 σ 36 x5 fun v5 =>
          bd1 (f_X7_liesUnder σ 14 v5 x3) fun v6 =>
          if v6 = 0 then
            lp_X2_gather_3 x1 x2 x3 x4 kx n σ (x5 + 1)
          else
            bd2 (f_X1_add σ x1 x5) fun v9 σ10 =>
            lp_X2_gather_3 x1 x2 x3 x4 kx n σ10 (x5 + 1)
        else
          lp_X2_gather_3 x1 x2 x3 x4 kx n σ (x5 + 1)
    else
      kx σ
def f_X2_gather (σ : St) (a1 : Int) (a2 : Int) (a3 : Int) (a4 : Int) : Option (Int × St) :=
lp_X2_gather_3 a1 a2 a3 a4 (fun σ11 =>
    some (0, σ11)) 200 σ 0
def lp_X2_climb_6 (x1 : Int) (x2 : Int) (x4 : Int) (kx : St → Option (Int × St)) : Nat → St → Int → Int → Option (Int × St)
  | 0, _, _, _ => none
  | n + 1, σ, x5, x6 =>
    if 7 < wI x6 then
      kx σ
    else
      bd2 (f_X2_gather σ x1 x2 x5 x4) fun v2 σ3 =>
      bd1 (f_X7_nodeAbove σ3 14 x5) fun v4 =>
      if 0 < wI (σ3 x1 1) then
        some (0, σ3)
      else
        if wI v4 = (-1) then
          some (0, σ3)
        else
          wrF σ3 x1 2 ((σ3 x1 2) + 1) fun σ7 =>
          lp_X2_climb_6 x1 x2 x4 kx n σ7 v4 (x6 + 1)
def f_X2_climb (σ : St) (a1 : Int) (a2 : Int) (a3 : Int) (a4 : Int) : Option (Int × St) :=
lp_X2_climb_6 a1 a2 a4 (fun σ8 =>
    some (0, σ8)) 200 σ a3 0
def jn_X2_chooseFor_86 (kb : St → Int → Int → Int → Option (Int × St)) (σ : St) (x2 : Int) (x3 : Int) (x4 : Int) (x5 : Int) (x6 : Int) (x7 : Int) : Option (Int × St) :=
  bd2 (f_X2_climb σ x3 x5 x4 x2) fun v12 σ13 =>
  if 0 < wI (σ13 x3 1) then
    some (0, σ13)
  else
    rdA 6 σ13 34 x5 fun v15 =>
    kb σ13 v15 x6 (x7 + 1)
def lp_X2_chooseFor_35 (x2 : Int) (x3 : Int) (x4 : Int) (kx : St → Option (Int × St)) : Nat → St → Int → Int → Int → Option (Int × St)
  | 0, _, _, _, _ => none
  | n + 1, σ, x5, x6, x7 =>
    if wI x7 < 6 then
      if wI (andI x6 (shlI 1 x5)) = 0 then
        bnd (orI x6 (shlI 1 x5)) fun v8 =>
        wrF σ x3 3 ((σ x3 3) + 1) fun σ9 =>
        if 0 < wI x7 then
          wrF σ9 x3 2 ((σ9 x3 2) + 1) fun σ11 =>
          jn_X2_chooseFor_86 (lp_X2_chooseFor_35 x2 x3 x4 kx n) σ11 x2 x3 x4 x5 v8 x7
        else
          jn_X2_chooseFor_86 (lp_X2_chooseFor_35 x2 x3 x4 kx n) σ9 x2 x3 x4 x5 v8 x7
      else
        kx σ
    else
      kx σ
def f_X2_chooseFor (σ : St) (a1 : Int) (a2 : Int) : Option (Int × St) :=
ixA 8 a1 <|
bd2 (f_X1_begin σ (38 + 2 * a1)) fun v2 σ3 =>
bd1 (f_X2_leafOfTarget σ3 a1) fun v4 =>
rdA 8 σ3 11 a1 fun v5 =>
lp_X2_chooseFor_35 a2 (38 + 2 * a1) v4 (fun σ16 =>
    bd2 (f_X1_miss σ16 (38 + 2 * a1)) fun v17 σ18 =>
    some (0, σ18)) 200 σ3 v5 0 0
def lp_X2_chooseAll_6 (x1 : Int) (kx : St → Option (Int × St)) : Nat → St → Int → Option (Int × St)
  | 0, _, _ => none
  | n + 1, σ, x2 =>
    if wI x2 < wI (σ 10 3) then
      bd2 (f_X2_chooseFor σ x2 x1) fun v4 σ5 =>
      ixA 8 x2 <|
      if (f_X1_isMissing σ5 (38 + 2 * x2)) = 0 then
        lp_X2_chooseAll_6 x1 kx n σ5 (x2 + 1)
      else
        some (0, σ5)
    else
      kx σ
def f_X2_chooseAll (σ : St) (a1 : Int) : Option (Int × St) :=
bd2 (f_X2_findLeaves σ) fun v1 σ2 =>
lp_X2_chooseAll_6 a1 (fun σ9 =>
    some ((if 0 < wI (σ9 10 3) then 1 else 0), σ9)) 200 σ2 0
def f_X2_choose (σ : St) (a1 : Int) (a2 : Int) : Option (Int × St) :=
bd2 (f_X2_findLeaves σ) fun v1 σ2 =>
bd2 (f_X2_chooseFor σ2 a1 a2) fun v3 σ4 =>
ixA 8 a1 <|
some (38 + 2 * a1, σ4)
def f_X4_add (σ : St) (o : Int) (a1 : Int) (a2 : Int) (a3 : Int) : Option (Int × St) :=
if wI (σ o 3) < 0 then
  some (0, σ)
else
  if wI (σ o 3) < 8 then
    wrA 8 σ (o + 1) (σ o 3) a1 fun σ3 =>
    wrA 8 σ3 (o + 2) (σ3 o 3) a2 fun σ4 =>
    wrA 8 σ4 (o + 3) (σ4 o 3) a3 fun σ5 =>
    wrF σ5 o 3 ((σ5 o 3) + 1) fun σ6 =>
    some (0, σ6)
  else
    some (0, σ)
def lp_X4_become_7 (o : Int) (x1 : Int) (kx : St → Option (Int × St)) : Nat → St → Int → Option (Int × St)
  | 0, _, _ => none
  | n + 1, σ, x2 =>
    if wI x2 < 8 then
      if wI x2 < wI (σ x1 3) then
        rdA 8 σ (x1 + 1) x2 fun v4 =>
        rdA 8 σ (x1 + 2) x2 fun v5 =>
        rdA 8 σ (x1 + 3) x2 fun v6 =>
        bd2 (f_X4_add σ o v4 v5 v6) fun v7 σ8 =>
        lp_X4_become_7 o x1 kx n σ8 (x2 + 1)
      else
        kx σ
    else
      kx σ
def f_X4_become (σ : St) (o : Int) (a1 : Int) : Option (Int × St) :=
wrF σ o 3 0 fun σ1 =>
lp_X4_become_7 o a1 (fun σ9 =>
    some (0, σ9)) 200 σ1 0
def f_X5_end (σ : St) (o : Int) (a1 : Int) : Option (Int × St) :=
bd2 (f_X5_begin σ o a1) fun v1 σ2 =>
wrA (uvLn (o + 1)) σ2 (o + 1) a1 0 fun σ3 =>
wrA (uvLn (o + 4)) σ3 (o + 4) a1 1 fun σ4 =>
some (0, σ4)
def f_X6_add (σ : St) (a1 : Int) : Option (Int × St) :=
if wI (σ 21 3) < 0 then
  some (0, σ)
else
  if wI (σ 21 3) < 120 then
    wrA 120 σ 22 (σ 21 3) a1 fun σ3 =>
    wrF σ3 21 3 ((σ3 21 3) + 1) fun σ4 =>
    some (0, σ4)
  else
    some (0, σ)
def f_X7_removeAll (σ : St) (o : Int) : Option (Int × St) :=
wrF σ o 6 0 fun σ1 =>
wrF σ1 o 7 0 fun σ2 =>
wrF σ2 o 8 0 fun σ3 =>
some (0, σ3)
def lp_X6_look_0 (kx : St → Option (Int × St)) : Nat → St → Option (Int × St)
  | 0, _ => none
  | n + 1, σ =>
    if wI (σ 21 5) < wI (σ 21 3) then
      rdA 120 σ 22 (σ 21 5) fun v2 =>
      if wI v2 = 32 then
        wrF σ 21 5 ((σ 21 5) + 1) fun σ4 =>
        lp_X6_look_0 kx n σ4
      else
        kx σ
    else
      kx σ
def jn_X6_look_38 (σ : St)  : Option (Int × St) :=
  if wI (σ 21 5) < wI (σ 21 3) then
    rdA 120 σ 22 (σ 21 5) fun v7 =>
    some (v7, σ)
  else
    some ((-1), σ)
def f_X6_look (σ : St)  : Option (Int × St) :=
lp_X6_look_0 (fun σ5 =>
    jn_X6_look_38 σ5) 200 σ
def f_X6_fail (σ : St)  : Option (Int × St) :=
wrF σ 21 6 (σ 21 5) fun σ1 =>
some ((-1), σ1)
def lp_X6_readWord_7 (x1 : Int) (x2 : Int) (kx : St → Option (Int × St)) : Nat → St → Int → Option (Int × St)
  | 0, _, _ => none
  | n + 1, σ, x3 =>
    if wI x3 < wI (sLen x1) then
      if wI (σ 21 5) < wI (σ 21 3) then
        rdA 120 σ 22 (σ 21 5) fun v3 =>
        if 0 ≤ x3 ∧ x3 < sLen x1 then
          if wI v3 = wI (sChr x1 x3) then
            wrF σ 21 5 ((σ 21 5) + 1) fun σ6 =>
            lp_X6_readWord_7 x1 x2 kx n σ6 (x3 + 1)
          else
            wrF σ 21 5 x2 fun σ7 =>
            bd2 (f_X6_fail σ7) fun v8 σ9 =>
            some (0, σ9)
        else none
      else
        bd2 (f_X6_fail σ) fun v10 σ11 =>
        some (0, σ11)
    else
      kx σ
def f_X6_readWord (σ : St) (a1 : Int) : Option (Int × St) :=
lp_X6_readWord_7 a1 (σ 21 5) (fun σ12 =>
    some (1, σ12)) 200 σ 0
def f_X9_within (a0 : Int) (a1 : Int) (a2 : Int) : Int :=
(if wI a0 < wI a1 then 0 else (if wI a2 < wI a0 then 0 else 1))
def f_X6_readFigure (σ : St) (a1 : Int) (a2 : Int) : Option (Int × St) :=
bd2 (f_X6_look σ) fun v1 σ2 =>
bnd (v1 - 48) fun v3 =>
if (f_X9_within v3 a1 a2) = 0 then
  bd2 (f_X6_fail σ2) fun v6 σ7 =>
  some (v6, σ7)
else
  wrF σ2 21 5 ((σ2 21 5) + 1) fun σ8 =>
  some (v3, σ8)
def f_X6_readTarget (σ : St) (a1 : Int) : Option (Int × St) :=
wrF σ 21 5 ((σ 21 5) + 1) fun σ1 =>
bd2 (f_X6_readFigure σ1 0 9) fun v2 σ3 =>
if wI (σ3 21 6) = (-1) then
  bd2 (f_X6_readFigure σ3 1 9) fun v5 σ6 =>
  if wI (σ6 21 6) = (-1) then
    bd2 (f_X4_add σ6 23 a1 v2 v5) fun v8 σ9 =>
    some (0, σ9)
  else
    some (0, σ6)
else
  some (0, σ3)
def jn_X6_readRow_42 (kb : St → Int → Option (Int × St)) (σ : St) (x1 : Int) (x2 : Int) : Option (Int × St) :=
  if (f_X9_within x2 97 102) = 0 then
    bd2 (f_X6_fail σ) fun v13 σ14 =>
    kb σ14 (x1 + 1)
  else
    bd2 (f_X6_readTarget σ (x2 - 97)) fun v15 σ16 =>
    kb σ16 (x1 + 1)
def lp_X6_readRow_12 (kx : St → Option (Int × St)) : Nat → St → Int → Option (Int × St)
  | 0, _, _ => none
  | n + 1, σ, x1 =>
    if wI x1 < 8 then
      if wI (σ 21 6) = (-1) then
        bd2 (f_X6_look σ) fun v7 σ8 =>
        if wI v7 = 59 then
          if 0 < wI x1 then
            some (0, σ8)
          else
            jn_X6_readRow_42 (lp_X6_readRow_12 kx n) σ8 x1 v7
        else
          jn_X6_readRow_42 (lp_X6_readRow_12 kx n) σ8 x1 v7
      else
        kx σ
    else
      kx σ
def f_X6_readRow (σ : St)  : Option (Int × St) :=
bd2 (f_X6_readWord σ 0) fun v1 σ2 =>
if v1 = 0 then
  some (0, σ2)
else
  lp_X6_readRow_12 (fun σ17 =>
      some (0, σ17)) 200 σ2 0
def f_X7_addNode (σ : St) (o : Int) (a1 : Int) (a2 : Int) (a3 : Int) : Option (Int × St) :=
if wI (σ o 6) < 0 then
  some ((-1), σ)
else
  if wI (σ o 6) < 120 then
    bnd (σ o 6) fun v3 =>
    wrA 120 σ (o + 1) v3 a1 fun σ4 =>
    wrA 120 σ4 (o + 2) v3 a2 fun σ5 =>
    wrA 120 σ5 (o + 3) v3 a3 fun σ6 =>
    wrA 120 σ6 (o + 4) v3 (-1) fun σ7 =>
    wrA 120 σ7 (o + 5) v3 (-1) fun σ8 =>
    wrA 120 σ8 (o + 6) v3 (-1) fun σ9 =>
    wrF σ9 o 6 ((σ9 o 6) + 1) fun σ10 =>
    some (v3, σ10)
  else
    some ((-1), σ)
def f_X7_addLeaf (σ : St) (o : Int) (a1 : Int) : Option (Int × St) :=
bd2 (f_X7_addNode σ o 42 0 a1) fun v1 σ2 =>
if wI v1 = (-1) then
  some (v1, σ2)
else
  wrA 120 σ2 (o + 6) v1 (σ2 o 7) fun σ4 =>
  wrF σ4 o 7 ((σ4 o 7) + 1) fun σ5 =>
  some (v1, σ5)
def f_X6_isQuestion (a0 : Int) : Int :=
(if wI a0 = 76 then 1 else (if wI a0 = 82 then 1 else (if wI a0 = 80 then 1 else (if wI a0 = 68 then 1 else 0))))
def f_X7_addQuestion (σ : St) (o : Int) (a1 : Int) (a2 : Int) (a3 : Int) (a4 : Int) : Option (Int × St) :=
wrF σ o 8 (f_J9_max_7cf53 (σ o 8) a4) fun σ1 =>
bd2 (f_X7_addNode σ1 o a1 a2 a3) fun v2 σ3 =>
some (v2, σ3)
def f_X6_readSign (σ : St) (a1 : Int) : Option (Int × St) :=
bd2 (f_X6_look σ) fun v1 σ2 =>
if wI v1 = wI a1 then
  wrF σ2 21 5 ((σ2 21 5) + 1) fun σ4 =>
  some (1, σ4)
else
  bd2 (f_X6_fail σ2) fun v5 σ6 =>
  some (0, σ6)
def f_X7_putBranches (σ : St) (o : Int) (a1 : Int) (a2 : Int) (a3 : Int) : Option (Int × St) :=
if (f_X7_isNode σ o a1) = 0 then
  some (0, σ)
else
  wrA 120 σ (o + 4) a1 a2 fun σ3 =>
  wrA 120 σ3 (o + 5) a1 a3 fun σ4 =>
  some (0, σ4)
def f_X6_readBranches (rn : St → Int → Int → Option (Int × St)) (σ : St) (a1 : Int) (a2 : Int) : Option (Int × St) :=
bd2 (f_X6_readSign σ 40) fun v1 σ2 =>
if v1 = 0 then
  some ((-1), σ2)
else
  bd2 (rn σ2 a1 a2) fun v5 σ6 =>
  if wI (σ6 21 6) = (-1) then
    bd2 (rn σ6 a1 a2) fun v8 σ9 =>
    if wI (σ9 21 6) = (-1) then
      bd2 (f_X6_readSign σ9 41) fun v11 σ12 =>
      if v11 = 0 then
        some ((-1), σ12)
      else
        bd2 (f_X7_putBranches σ12 27 a1 v5 v8) fun v15 σ16 =>
        some (a1, σ16)
    else
      some ((-1), σ9)
  else
    some ((-1), σ6)
def f_X6_readNode : Nat → St → Int → Int → Option (Int × St)
  | 0, _, _, _ => none
  | d + 1, σ, a1, a2 =>
    bd2 (f_X6_look σ) fun v1 σ2 =>
    if wI v1 = 42 then
      wrF σ2 21 5 ((σ2 21 5) + 1) fun σ4 =>
      bd2 (f_X7_addLeaf σ4 27 a1) fun v5 σ6 =>
      some (v5, σ6)
    else
      if (f_X6_isQuestion v1) = 0 then
        bd2 (f_X6_fail σ2) fun v9 σ10 =>
        some (v9, σ10)
      else
        if wI a2 < 7 then
          wrF σ2 21 5 ((σ2 21 5) + 1) fun σ12 =>
          bd2 (f_X6_readFigure σ12 0 (if wI v1 = 76 then 6 else (if wI v1 = 82 then 6 else 9))) fun v14 σ15 =>
          if wI (σ15 21 6) = (-1) then
            bd2 (f_X7_addQuestion σ15 27 v1 v14 a1 (a2 + 1)) fun v17 σ18 =>
            bd2 (f_X6_readBranches (f_X6_readNode d) σ18 v17 (a2 + 1)) fun v19 σ20 =>
            some (v19, σ20)
          else
            some ((-1), σ15)
        else
          bd2 (f_X6_fail σ2) fun v23 σ24 =>
          some (v23, σ24)
def f_X6_readTree (σ : St)  : Option (Int × St) :=
bd2 (f_X6_readWord σ 1) fun v1 σ2 =>
if v1 = 0 then
  some (0, σ2)
else
  bd2 (f_X6_readNode 9 σ2 (-1) 0) fun v5 σ6 =>
  some (0, σ6)
def f_X6_readEnd (σ : St)  : Option (Int × St) :=
bd2 (f_X6_readSign σ 59) fun v1 σ2 =>
if v1 = 0 then
  some (0, σ2)
else
  bd2 (f_X6_look σ2) fun v5 σ6 =>
  if wI v5 = (-1) then
    some (0, σ6)
  else
    bd2 (f_X6_fail σ6) fun v8 σ9 =>
    some (0, σ9)
def jn_X6_read_76 (σ : St)  : Option (Int × St) :=
  if wI (σ 21 6) = (-1) then
    bd2 (f_X6_readEnd σ) fun v14 σ15 =>
    some (σ15 21 6, σ15)
  else
    some (σ 21 6, σ)
def f_X6_read (σ : St)  : Option (Int × St) :=
wrF σ 21 5 0 fun σ1 =>
wrF σ1 21 6 (-1) fun σ2 =>
wrF σ2 23 3 0 fun σ3 =>
bd2 (f_X7_removeAll σ3 27) fun v4 σ5 =>
bd2 (f_X6_look σ5) fun v6 σ7 =>
wrF σ7 21 4 (if wI v6 = 114 then 1 else 0) fun σ9 =>
if wI v6 = 114 then
  bd2 (f_X6_readRow σ9) fun v11 σ12 =>
  jn_X6_read_76 σ12
else
  if wI v6 = 116 then
    bd2 (f_X6_readTree σ9) fun v17 σ18 =>
    jn_X6_read_76 σ18
  else
    bd2 (f_X6_fail σ9) fun v19 σ20 =>
    jn_X6_read_76 σ20
def lp_X7_become_26 (o : Int) (x1 : Int) (kx : St → Option (Int × St)) : Nat → St → Int → Option (Int × St)
  | 0, _, _ => none
  | n + 1, σ, x2 =>
    if wI x2 < 120 then
      if wI x2 < wI (σ o 6) then
        rdA 120 σ (x1 + 1) x2 fun v6 =>
        wrA 120 σ (o + 1) x2 v6 fun σ7 =>
        rdA 120 σ7 (x1 + 2) x2 fun v8 =>
        wrA 120 σ7 (o + 2) x2 v8 fun σ9 =>
        rdA 120 σ9 (x1 + 3) x2 fun v10 =>
        wrA 120 σ9 (o + 3) x2 v10 fun σ11 =>
        rdA 120 σ11 (x1 + 4) x2 fun v12 =>
        wrA 120 σ11 (o + 4) x2 v12 fun σ13 =>
        rdA 120 σ13 (x1 + 5) x2 fun v14 =>
        wrA 120 σ13 (o + 5) x2 v14 fun σ15 =>
        rdA 120 σ15 (x1 + 6) x2 fun v16 =>
        wrA 120 σ15 (o + 6) x2 v16 fun σ17 =>
        lp_X7_become_26 o x1 kx n σ17 (x2 + 1)
      else
        kx σ
    else
      kx σ
def f_X7_become (σ : St) (o : Int) (a1 : Int) : Option (Int × St) :=
wrF σ o 6 (σ a1 6) fun σ1 =>
wrF σ1 o 7 (σ1 a1 7) fun σ2 =>
wrF σ2 o 8 (σ2 a1 8) fun σ3 =>
lp_X7_become_26 o a1 (fun σ18 =>
    some (0, σ18)) 200 σ3 0
def f_X7_numberOf (σ0 : St) (o : Int) (a1 : Int) : Option Int :=
if (f_X7_isNode σ0 o a1) = 0 then
  some (-1)
else
  rdA 120 σ0 (o + 6) a1 fun v3 =>
  some v3
def lp_X8_removeAll_7 (kx : St → Option (Int × St)) : Nat → St → Int → Option (Int × St)
  | 0, _, _ => none
  | n + 1, σ, x1 =>
    if wI x1 < 4 then
      wrA 4 σ 9 x1 (-1) fun σ3 =>
      lp_X8_removeAll_7 kx n σ3 (x1 + 1)
    else
      kx σ
def f_X8_removeAll (σ : St)  : Option (Int × St) :=
wrF σ 1 8 0 fun σ1 =>
lp_X8_removeAll_7 (fun σ4 =>
    some (0, σ4)) 200 σ1 0
def f_X9_isTake (a0 : Int) : Int :=
(f_X9_within a0 0 3)
def jn_X8_add_121 (σ : St) (x6 : Int) (x7 : Int) : Option (Int × St) :=
  wrA 4 σ 9 x6 x7 fun σ14 =>
  wrF σ14 1 8 ((σ14 1 8) + 1) fun σ15 =>
  some (x7, σ15)
def f_X8_add (σ : St) (a1 : Int) (a2 : Int) (a3 : Int) (a4 : Int) (a5 : Int) (a6 : Int) : Option (Int × St) :=
if wI (σ 1 8) < 0 then
  some ((-1), σ)
else
  if wI (σ 1 8) < 40 then
    if (f_X9_isTake a6) = 0 then
      some ((-1), σ)
    else
      wrA 40 σ 2 (σ 1 8) a1 fun σ5 =>
      wrA 40 σ5 3 (σ 1 8) a2 fun σ6 =>
      wrA 40 σ6 4 (σ 1 8) a3 fun σ7 =>
      wrA 40 σ7 5 (σ 1 8) a4 fun σ8 =>
      wrA 40 σ8 6 (σ 1 8) a5 fun σ9 =>
      wrA 40 σ9 7 (σ 1 8) a6 fun σ10 =>
      wrA 40 σ10 8 (σ 1 8) (-1) fun σ11 =>
      rdA 4 σ11 9 a6 fun v12 =>
      if wI v12 < 0 then
        jn_X8_add_121 σ11 a6 (σ 1 8)
      else
        if wI v12 < wI (σ 1 8) then
          wrA 40 σ11 8 v12 (σ 1 8) fun σ17 =>
          jn_X8_add_121 σ17 a6 (σ 1 8)
        else
          jn_X8_add_121 σ11 a6 (σ 1 8)
  else
    some ((-1), σ)
def f_X8_putRight (σ : St) (a1 : Int) (a2 : Int) : Option (Int × St) :=
if wI a1 < 0 then
  some (0, σ)
else
  if wI a1 < wI (σ 1 8) then
    wrA 40 σ 4 a1 a2 fun σ3 =>
    some (0, σ3)
  else
    some (0, σ)
def f_X9_isSound (a0 : Int) : Int :=
(f_X9_within a0 0 5)
def f_X9_bad (σ : St)  : Option (Int × St) :=
wrF σ 0 9 ((σ 0 9) + 1) fun σ1 =>
some ((-2), σ1)
def f_X9_full (σ : St)  : Option (Int × St) :=
wrF σ 0 11 ((σ 0 11) + 1) fun σ1 =>
some ((-4), σ1)
def f_X9_unit (σ : St) (a1 : Int) (a2 : Int) (a3 : Int) (a4 : Int) (a5 : Int) (a6 : Int) : Option (Int × St) :=
if (f_X9_isSound a1) = 0 then
  bd2 (f_X9_bad σ) fun v3 σ4 =>
  some (v3, σ4)
else
  if (f_X9_within a2 0 6) = 0 then
    bd2 (f_X9_bad σ) fun v7 σ8 =>
    some (v7, σ8)
  else
    if (f_X9_within a3 0 6) = 0 then
      bd2 (f_X9_bad σ) fun v11 σ12 =>
      some (v11, σ12)
    else
      if (f_X9_within a4 0 9) = 0 then
        bd2 (f_X9_bad σ) fun v15 σ16 =>
        some (v15, σ16)
      else
        if (f_X9_within a5 1 9) = 0 then
          bd2 (f_X9_bad σ) fun v19 σ20 =>
          some (v19, σ20)
        else
          if (f_X9_isTake a6) = 0 then
            bd2 (f_X9_bad σ) fun v23 σ24 =>
            some (v23, σ24)
          else
            if wI (σ 1 8) < 40 then
              bd2 (f_X8_add σ a1 a2 a3 a4 a5 a6) fun v26 σ27 =>
              some (v26, σ27)
            else
              bd2 (f_X9_full σ) fun v28 σ29 =>
              some (v28, σ29)
def lp_X9_records_62 (x2 : Int) (x3 : Int) (kx : St → Option (Int × St)) : Nat → St → Int → Int → Int → Option (Int × St)
  | 0, _, _, _, _ => none
  | n + 1, σ, x4, x6, x7 =>
    if wI x7 < wI x2 then
      bnd (remL ((x4 * 1103515245) + 12345) 2147483648) fun v18 =>
      bnd (remL (divL v18 65536) 6) fun v19 =>
      bnd (remL (divL v18 4096) 10) fun v20 =>
      bnd ((remL (divL v18 1024) 9) + 1) fun v21 =>
      bd2 (f_X8_add σ v19 x6 6 v20 v21 x3) fun v22 σ23 =>
      if 0 < wI x7 then
        bd2 (f_X8_putRight σ23 (v22 - 1) v19) fun v25 σ26 =>
        lp_X9_records_62 x2 x3 kx n σ26 v18 v19 (x7 + 1)
      else
        lp_X9_records_62 x2 x3 kx n σ23 v18 v19 (x7 + 1)
    else
      kx σ
def f_X9_records (σ : St) (a1 : Int) (a2 : Int) (a3 : Int) : Option (Int × St) :=
if (f_X9_within a1 0 999999) = 0 then
  bd2 (f_X9_bad σ) fun v3 σ4 =>
  some (v3, σ4)
else
  if (f_X9_within a2 1 9) = 0 then
    bd2 (f_X9_bad σ) fun v7 σ8 =>
    some (v7, σ8)
  else
    if (f_X9_isTake a3) = 0 then
      bd2 (f_X9_bad σ) fun v11 σ12 =>
      some (v11, σ12)
    else
      if 40 < wI ((σ 1 8) + a2) then
        bd2 (f_X9_full σ) fun v14 σ15 =>
        some (v14, σ15)
      else
        bnd (i2lI a1) fun v16 =>
        lp_X9_records_62 a2 a3 (fun σ27 =>
            some (σ27 1 8, σ27)) 200 σ v16 6 0
def f_X9_isUnit (σ0 : St) (a1 : Int) : Int :=
(if wI a1 < 0 then 0 else (if wI a1 < wI (σ0 1 8) then 1 else 0))
def f_X9_of (σ : St) (a1 : Int) (a2 : Int) : Option (Int × St) :=
if (f_X9_isUnit σ a1) = 0 then
  bd2 (f_X9_bad σ) fun v3 σ4 =>
  some (v3, σ4)
else
  if wI a2 = 0 then
    rdA 40 σ 2 a1 fun v6 =>
    some (v6, σ)
  else
    if wI a2 = 1 then
      rdA 40 σ 3 a1 fun v8 =>
      some (v8, σ)
    else
      if wI a2 = 2 then
        rdA 40 σ 4 a1 fun v10 =>
        some (v10, σ)
      else
        if wI a2 = 3 then
          rdA 40 σ 5 a1 fun v12 =>
          some (v12, σ)
        else
          if wI a2 = 4 then
            rdA 40 σ 6 a1 fun v14 =>
            some (v14, σ)
          else
            if wI a2 = 5 then
              rdA 40 σ 7 a1 fun v16 =>
              some (v16, σ)
            else
              if wI a2 = 6 then
                rdA 40 σ 8 a1 fun v18 =>
                some (v18, σ)
              else
                bd2 (f_X9_bad σ) fun v19 σ20 =>
                some (v19, σ20)
def f_X9_empties (σ : St)  : Option (Int × St) :=
bd2 (f_X8_removeAll σ) fun v1 σ2 =>
some (σ 1 8, σ2)
def f_X9_other (σ : St) (a1 : Int) (a2 : Int) : Option (Int × St) :=
if (f_X9_isSound a1) = 0 then
  bd2 (f_X9_bad σ) fun v3 σ4 =>
  some (v3, σ4)
else
  if (f_X9_isSound a2) = 0 then
    bd2 (f_X9_bad σ) fun v7 σ8 =>
    some (v7, σ8)
  else
    rdA 6 σ 34 a1 fun v9 =>
    wrA 6 σ 34 a1 a2 fun σ10 =>
    some (v9, σ10)
def f_X9_fitter (σ : St) (a1 : Int) : Option (Int × St) :=
if (f_X9_within a1 0 4) = 0 then
  bd2 (f_X9_bad σ) fun v3 σ4 =>
  some (v3, σ4)
else
  wrF σ 0 8 a1 fun σ5 =>
  some (σ 0 8, σ5)
def f_X9_type (σ : St) (a1 : Int) : Option (Int × St) :=
if (f_X9_within a1 0 127) = 0 then
  bd2 (f_X9_bad σ) fun v3 σ4 =>
  some (v3, σ4)
else
  if wI (σ 21 3) < 120 then
    bd2 (f_X6_add σ a1) fun v6 σ7 =>
    some (σ7 21 3, σ7)
  else
    bd2 (f_X9_full σ) fun v8 σ9 =>
    some (v8, σ9)
def f_X9_clear (σ : St)  : Option (Int × St) :=
wrF σ 21 3 0 fun σ1 =>
some (σ 21 3, σ1)
def f_X9_reads (σ : St)  : Option (Int × St) :=
bd2 (f_X6_read σ) fun v1 σ2 =>
if wI v1 = (-1) then
  if wI (σ2 21 4) = 0 then
    bd2 (f_X7_become σ2 14 27) fun v5 σ6 =>
    some (σ6 14 7, σ6)
  else
    bd2 (f_X4_become σ2 10 23) fun v7 σ8 =>
    some (σ8 10 3, σ8)
else
  some ((-10) - v1, σ2)
def f_X9_isTarget (σ0 : St) (a1 : Int) : Int :=
(if wI a1 < 0 then 0 else (if wI a1 < wI (σ0 10 3) then 1 else 0))
def f_X9_target (σ : St) (a1 : Int) (a2 : Int) : Option (Int × St) :=
if (f_X9_isTarget σ a1) = 0 then
  bd2 (f_X9_bad σ) fun v3 σ4 =>
  some (v3, σ4)
else
  if wI a2 = 0 then
    rdA 8 σ 11 a1 fun v6 =>
    some (v6, σ)
  else
    if wI a2 = 1 then
      rdA 8 σ 12 a1 fun v8 =>
      some (v8, σ)
    else
      if wI a2 = 2 then
        rdA 8 σ 13 a1 fun v10 =>
        some (v10, σ)
      else
        if wI a2 = 3 then
          bd1 (f_X4_leftOf σ 10 a1) fun v12 =>
          some (v12, σ)
        else
          if wI a2 = 4 then
            bd1 (f_X4_rightOf σ 10 a1) fun v14 =>
            some (v14, σ)
          else
            bd2 (f_X9_bad σ) fun v15 σ16 =>
            some (v15, σ16)
def f_J13_bitCount_95d88 (a0 : Int) : Int :=
bnd (a0 - (andL (ushrL a0 1) 6148914691236517205)) fun v1 =>
bnd ((andL v1 3689348814741910323) + (andL (ushrL v1 2) 3689348814741910323)) fun v2 =>
bnd (andL (v2 + (ushrL v2 4)) 1085102592571150095) fun v3 =>
bnd (v3 + (ushrL v3 8)) fun v4 =>
bnd (v4 + (ushrL v4 16)) fun v5 =>
bnd (v5 + (ushrL v5 32)) fun v6 =>
andI v6 127
def lp_X9_emptyLeaves_4 (σ0 : St) (kx : Int → Option Int) : Nat → Int → Int → Option Int
  | 0, _, _ => none
  | n + 1, x1, x3 =>
    if wI x3 < wI (σ0 1 8) then
      bd1 (f_X2_leafOfUnit σ0 x3) fun v2 =>
      bd1 (f_X7_numberOf σ0 14 v2) fun v3 =>
      bnd (orL x1 (shlL 1 v3)) fun v4 =>
      lp_X9_emptyLeaves_4 σ0 kx n v4 (x3 + 1)
    else
      kx x1
def f_X9_emptyLeaves (σ0 : St)  : Option Int :=
lp_X9_emptyLeaves_4 σ0 (fun y5 =>
    some ((σ0 14 7) - (f_J13_bitCount_95d88 y5))) 200 0 0
def f_X9_tree (σ : St) (a1 : Int) : Option (Int × St) :=
if wI a1 = 0 then
  some (σ 14 7, σ)
else
  if wI a1 = 1 then
    some (σ 14 8, σ)
  else
    if wI a1 = 2 then
      bd1 (f_X9_emptyLeaves σ) fun v4 =>
      some (v4, σ)
    else
      bd2 (f_X9_bad σ) fun v5 σ6 =>
      some (v5, σ6)
def jn_X9_leaf_28 (σ : St) (x1 : Int) (x2 : Int) : Option (Int × St) :=
  if wI x1 = 1 then
    if (f_X9_isTarget σ x2) = 0 then
      bd2 (f_X9_bad σ) fun v7 σ8 =>
      some (v7, σ8)
    else
      bd1 (f_X2_leafOfTarget σ x2) fun v9 =>
      bd1 (f_X7_numberOf σ 14 v9) fun v10 =>
      some (v10, σ)
  else
    bd2 (f_X9_bad σ) fun v11 σ12 =>
    some (v11, σ12)
def f_X9_leaf (σ : St) (a1 : Int) (a2 : Int) : Option (Int × St) :=
if wI a1 = 0 then
  if (f_X9_isUnit σ a2) = 0 then
    jn_X9_leaf_28 σ a1 a2
  else
    bd1 (f_X2_leafOfUnit σ a2) fun v13 =>
    bd1 (f_X7_numberOf σ 14 v13) fun v14 =>
    some (v14, σ)
else
  jn_X9_leaf_28 σ a1 a2
def f_X9_isPlace (σ0 : St) (a1 : Int) : Int :=
if wI (σ0 10 3) = 0 then
  (f_X9_within a1 0 7)
else
  (f_X9_isTarget σ0 a1)
def f_X9_no (σ : St)  : Option (Int × St) :=
wrF σ 0 10 ((σ 0 10) + 1) fun σ1 =>
some ((-3), σ1)
def f_X9_choice (σ : St) (a1 : Int) (a2 : Int) : Option (Int × St) :=
if (f_X9_isPlace σ a1) = 0 then
  wrF σ 0 9 ((σ 0 9) + 1) fun σ3 =>
  some ((-10), σ3)
else
  if wI a2 < (-1) then
    wrF σ 0 9 ((σ 0 9) + 1) fun σ5 =>
    some ((-10), σ5)
  else
    if wI (σ 10 3) = 0 then
      bd2 (f_X9_no σ) fun v7 σ8 =>
      some (v7, σ8)
    else
      bd2 (f_X2_choose σ a1 (-1)) fun v9 σ10 =>
      if (f_X1_isMissing σ10 v9) = 0 then
        if wI a2 = (-1) then
          some (σ10 v9 1, σ10)
        else
          if wI a2 < wI (σ10 v9 1) then
            rdA 40 σ10 (v9 + 1) a2 fun v16 =>
            some (v16, σ10)
          else
            some ((-5), σ10)
      else
        bd2 (f_X9_no σ10) fun v17 σ18 =>
        some (v17, σ18)
def f_X9_steps (σ : St) (a1 : Int) : Option (Int × St) :=
if (f_X9_isTarget σ a1) = 0 then
  bd2 (f_X9_bad σ) fun v3 σ4 =>
  some (v3, σ4)
else
  bd2 (f_X2_choose σ a1 (-1)) fun v5 σ6 =>
  some (σ6 v5 2, σ6)
def f_X9_tried (σ : St) (a1 : Int) : Option (Int × St) :=
if (f_X9_isTarget σ a1) = 0 then
  bd2 (f_X9_bad σ) fun v3 σ4 =>
  some (v3, σ4)
else
  bd2 (f_X2_choose σ a1 (-1)) fun v5 σ6 =>
  some (σ6 v5 3, σ6)
def f_X9_fit (σ : St) (a1 : Int) (a2 : Int) : Option (Int × St) :=
if (f_X9_isUnit σ a1) = 0 then
  bd2 (f_X9_bad σ) fun v3 σ4 =>
  some (v3, σ4)
else
  if (f_X9_isTarget σ a2) = 0 then
    bd2 (f_X9_bad σ) fun v7 σ8 =>
    some (v7, σ8)
  else
    bd1 (f_X3_ofFit σ (σ 0 8) a1 a2) fun v9 =>
    some (v9, σ)
def f_X9_joint (σ : St) (a1 : Int) (a2 : Int) : Option (Int × St) :=
if (f_X9_isUnit σ a1) = 0 then
  bd2 (f_X9_bad σ) fun v3 σ4 =>
  some (v3, σ4)
else
  if (f_X9_isUnit σ a2) = 0 then
    bd2 (f_X9_bad σ) fun v7 σ8 =>
    some (v7, σ8)
  else
    bd1 (f_X3_ofJoint σ a1 a2) fun v9 =>
    some (v9, σ)
def f_X9_findChain (σ : St) (a1 : Int) : Option (Int × St) :=
bd2 (f_X2_chooseAll σ a1) fun v1 σ2 =>
if v1 = 0 then
  some (0, σ2)
else
  bd2 (f_X0_weigh σ2 (σ2 0 8)) fun v5 σ6 =>
  bd2 (f_X0_trace σ6) fun v7 σ8 =>
  some (1, σ8)
def f_X9_cost (σ : St)  : Option (Int × St) :=
bd2 (f_X9_findChain σ (-1)) fun v1 σ2 =>
if v1 = 0 then
  bd2 (f_X9_no σ2) fun v5 σ6 =>
  some (v5, σ6)
else
  bd1 (f_X0_leastPrice σ2) fun v7 =>
  some (v7, σ2)
def f_X9_chain (σ : St) (a1 : Int) : Option (Int × St) :=
if (f_X9_isPlace σ a1) = 0 then
  bd2 (f_X9_bad σ) fun v3 σ4 =>
  some (v3, σ4)
else
  bd2 (f_X9_findChain σ (-1)) fun v5 σ6 =>
  if v5 = 0 then
    bd2 (f_X9_no σ6) fun v9 σ10 =>
    some (v9, σ10)
  else
    rdA 8 σ6 69 a1 fun v11 =>
    some (v11, σ6)
def f_X9_ways (σ : St)  : Option (Int × St) :=
bd2 (f_X9_findChain σ (-1)) fun v1 σ2 =>
if v1 = 0 then
  bd2 (f_X9_no σ2) fun v5 σ6 =>
  some (v5, σ6)
else
  bd1 (f_X0_waysOfLeast σ2) fun v7 =>
  some (v7, σ2)
def f_X9_next (σ : St)  : Option (Int × St) :=
bd2 (f_X9_findChain σ (-1)) fun v1 σ2 =>
if v1 = 0 then
  bd2 (f_X9_no σ2) fun v5 σ6 =>
  some (v5, σ6)
else
  bd1 (f_X0_secondPrice σ2) fun v7 =>
  some (v7, σ2)
def f_X9_dearest (σ : St)  : Option (Int × St) :=
bd2 (f_X9_findChain σ (-1)) fun v1 σ2 =>
if v1 = 0 then
  bd2 (f_X9_no σ2) fun v5 σ6 =>
  some (v5, σ6)
else
  bd1 (f_X0_mostPrice σ2) fun v7 =>
  some (v7, σ2)
def f_X9_without (σ : St) (a1 : Int) : Option (Int × St) :=
if (f_X9_isUnit σ a1) = 0 then
  bd2 (f_X9_bad σ) fun v3 σ4 =>
  some (v3, σ4)
else
  bd2 (f_X9_findChain σ a1) fun v5 σ6 =>
  if v5 = 0 then
    bd2 (f_X9_no σ6) fun v9 σ10 =>
    some (v9, σ10)
  else
    bd1 (f_X0_leastPrice σ6) fun v11 =>
    some (v11, σ6)
def f_X9_about (σ : St) (a1 : Int) : Option (Int × St) :=
if (f_X9_within a1 0 3) = 0 then
  bd2 (f_X9_bad σ) fun v3 σ4 =>
  some (v3, σ4)
else
  bd2 (f_X9_findChain σ (-1)) fun v5 σ6 =>
  if v5 = 0 then
    bd2 (f_X9_no σ6) fun v9 σ10 =>
    some (v9, σ10)
  else
    if wI a1 = 0 then
      bd1 (f_X0_pathFollowers σ6) fun v12 =>
      some (v12, σ6)
    else
      if wI a1 = 1 then
        bd1 (f_X0_pathFits σ6 (σ6 0 8)) fun v14 =>
        some (v14, σ6)
      else
        if wI a1 = 2 then
          bd1 (f_X0_pathJoints σ6) fun v16 =>
          some (v16, σ6)
        else
          bd1 (f_X0_dearestPathJoint σ6) fun v17 =>
          some (v17, σ6)
def lp_X9_cheapest_39 (x1 : Int) (kx : St → Int → Int → Option (Int × St)) : Nat → St → Int → Int → Int → Option (Int × St)
  | 0, _, _, _, _ => none
  | n + 1, σ, x2, x3, x4 =>
    if wI x4 < 5 then
      bd2 (f_X0_weigh σ x4) fun v12 σ13 =>
      bd1 (f_X0_leastPrice σ13) fun v14 =>
      if wI v14 < wI x3 then
        bd1 (f_X0_leastPrice σ13) fun v16 =>
        lp_X9_cheapest_39 x1 kx n σ13 x4 v16 (x4 + 1)
      else
        lp_X9_cheapest_39 x1 kx n σ13 x2 x3 (x4 + 1)
    else
      kx σ x2 x3
def f_X9_cheapest (σ : St) (a1 : Int) : Option (Int × St) :=
if (f_X9_within a1 0 1) = 0 then
  bd2 (f_X9_bad σ) fun v3 σ4 =>
  some (v3, σ4)
else
  bd2 (f_X2_chooseAll σ (-1)) fun v5 σ6 =>
  if v5 = 0 then
    bd2 (f_X9_no σ6) fun v9 σ10 =>
    some (v9, σ10)
  else
    lp_X9_cheapest_39 a1 (fun σ17 y18 y19 =>
        some ((if wI a1 = 0 then y18 else y19), σ17)) 200 σ6 0 1000000 0
def f_X9_told (σ : St) (a1 : Int) : Option (Int × St) :=
if wI a1 = 0 then
  some (σ 0 9, σ)
else
  if wI a1 = 1 then
    some (σ 0 10, σ)
  else
    if wI a1 = 2 then
      some (σ 0 11, σ)
    else
      if wI a1 = 3 then
        some (σ 21 3, σ)
      else
        if wI a1 = 4 then
          some (σ 1 8, σ)
        else
          if wI a1 = 5 then
            some (σ 10 3, σ)
          else
            if wI a1 = 6 then
              some (σ 0 8, σ)
            else
              bd2 (f_X9_bad σ) fun v8 σ9 =>
              some (v8, σ9)
def lp_X9_digest_6 (kx : St → Int → Option (Int × St)) : Nat → St → Int → Int → Option (Int × St)
  | 0, _, _, _ => none
  | n + 1, σ, x1, x3 =>
    if 6 < wI x3 then
      kx σ x1
    else
      bd2 (f_X9_told σ x3) fun v2 σ3 =>
      bnd ((31 * x1) + (i2lI v2)) fun v4 =>
      lp_X9_digest_6 kx n σ3 v4 (x3 + 1)
def lp_X9_digest_47 (x3 : Int) (kx : St → Int → Option (Int × St)) : Nat → St → Int → Int → Option (Int × St)
  | 0, _, _, _ => none
  | n + 1, σ, x1, x4 =>
    if 5 < wI x4 then
      kx σ x1
    else
      bd2 (f_X9_of σ x3 x4) fun v9 σ10 =>
      bnd ((31 * x1) + (i2lI v9)) fun v11 =>
      lp_X9_digest_47 x3 kx n σ10 v11 (x4 + 1)
def lp_X9_digest_33 (kx : St → Int → Option (Int × St)) : Nat → St → Int → Int → Option (Int × St)
  | 0, _, _, _ => none
  | n + 1, σ, x1, x3 =>
    if wI x3 < wI (σ 1 8) then
      lp_X9_digest_47 x3 (fun σ12 y13 =>
          lp_X9_digest_33 kx n σ12 y13 (x3 + 1)) 200 σ x1 0
    else
      kx σ x1
def lp_X9_digest_82 (kx : St → Int → Option (Int × St)) : Nat → St → Int → Int → Option (Int × St)
  | 0, _, _, _ => none
  | n + 1, σ, x1, x3 =>
    if wI x3 < 6 then
      rdA 6 σ 34 x3 fun v17 =>
      bnd ((31 * x1) + (i2lI v17)) fun v18 =>
      lp_X9_digest_82 kx n σ v18 (x3 + 1)
    else
      kx σ x1
def lp_X9_digest_124 (x3 : Int) (kx : St → Int → Option (Int × St)) : Nat → St → Int → Int → Option (Int × St)
  | 0, _, _, _ => none
  | n + 1, σ, x1, x4 =>
    if 2 < wI x4 then
      kx σ x1
    else
      bd2 (f_X9_target σ x3 x4) fun v23 σ24 =>
      bnd ((31 * x1) + (i2lI v23)) fun v25 =>
      lp_X9_digest_124 x3 kx n σ24 v25 (x4 + 1)
def lp_X9_digest_110 (kx : St → Int → Option (Int × St)) : Nat → St → Int → Int → Option (Int × St)
  | 0, _, _, _ => none
  | n + 1, σ, x1, x3 =>
    if wI x3 < wI (σ 10 3) then
      lp_X9_digest_124 x3 (fun σ26 y27 =>
          lp_X9_digest_110 kx n σ26 y27 (x3 + 1)) 200 σ x1 0
    else
      kx σ x1
def lp_X9_digest_222 (kx : St → Int → Option (Int × St)) : Nat → St → Int → Int → Option (Int × St)
  | 0, _, _, _ => none
  | n + 1, σ, x1, x3 =>
    if wI x3 < wI (σ 10 3) then
      rdA 8 σ 69 x3 fun v39 =>
      bnd ((31 * x1) + (i2lI v39)) fun v40 =>
      lp_X9_digest_222 kx n σ v40 (x3 + 1)
    else
      kx σ x1
def f_X9_digest (σ : St)  : Option (Int × St) :=
lp_X9_digest_6 (fun σ5 y6 =>
    lp_X9_digest_33 (fun σ14 y15 =>
        lp_X9_digest_82 (fun σ19 y20 =>
            lp_X9_digest_110 (fun σ28 y29 =>
                bnd ((31 * y29) + (i2lI (σ28 14 7))) fun v30 =>
                bnd ((31 * v30) + (i2lI (σ28 14 8))) fun v31 =>
                bd2 (f_X9_findChain σ28 (-1)) fun v32 σ33 =>
                if v32 = 0 then
                  some ((31 * v31) + (-1), σ33)
                else
                  bd1 (f_X0_leastPrice σ33) fun v36 =>
                  bnd ((31 * v31) + (i2lI v36)) fun v37 =>
                  lp_X9_digest_222 (fun σ41 y42 =>
                      some (y42, σ41)) 200 σ33 v37 0) 200 σ19 y20 0) 200 σ14 y15 0) 200 σ5 y6 0) 200 σ 1987 0
end
section
def f_X10_in (a0 : Int) (a2 : Int) (a4 : Int) : Int :=
(if cmpL a0 a2 < 0 then 0 else (if 0 < cmpL a0 a4 then 0 else 1))
def f_X10_bad (σ : St) (a1 : Int) : Option (Int × St) :=
rdA 3 σ 126 0 fun v1 =>
wrA 3 σ 126 0 (v1 + 1) fun σ2 =>
some (a1, σ2)
def f_X10_no (σ : St)  : Option (Int × St) :=
rdA 3 σ 126 1 fun v1 =>
wrA 3 σ 126 1 (v1 + 1) fun σ2 =>
some ((-3), σ2)
def f_X10_full (σ : St)  : Option (Int × St) :=
rdA 3 σ 126 2 fun v1 =>
wrA 3 σ 126 2 (v1 + 1) fun σ2 =>
some ((-4), σ2)
def f_X10_far (a0 : Int) (a1 : Int) : Int :=
(if wI a1 < wI a0 then a0 - a1 else a1 - a0)
def f_X10_at (σ0 : St) (a1 : Int) (a2 : Int) : Option Int :=
rdA 240 σ0 119 ((6 * a1) + a2) fun v1 =>
some v1
def f_X10_isUnit (σ0 : St) (a1 : Int) : Int :=
(f_X10_in (i2lI a1) 0 (i2lI ((σ0 118 1) - 1)))
def f_X10_isSound (a0 : Int) : Int :=
(f_X10_in (i2lI a0) 0 5)
def f_X10_lays (σ : St) (a1 : Int) (a2 : Int) (a3 : Int) (a4 : Int) (a5 : Int) (a6 : Int) : Option (Int × St) :=
bnd (6 * (σ 118 1)) fun v1 =>
wrA 240 σ 119 v1 a1 fun σ2 =>
wrA 240 σ2 119 (v1 + 1) a2 fun σ3 =>
wrA 240 σ3 119 (v1 + 2) a3 fun σ4 =>
wrA 240 σ4 119 (v1 + 3) a4 fun σ5 =>
wrA 240 σ5 119 (v1 + 4) a5 fun σ6 =>
wrA 240 σ6 119 (v1 + 5) a6 fun σ7 =>
wrF σ7 118 1 ((σ7 118 1) + 1) fun σ8 =>
some (0, σ8)
def f_X10_unit (σ : St) (a1 : Int) (a2 : Int) (a3 : Int) (a4 : Int) (a5 : Int) (a6 : Int) : Option (Int × St) :=
if (f_X10_isSound a1) = 0 then
  bd2 (f_X10_bad σ (-2)) fun v3 σ4 =>
  some (v3, σ4)
else
  if (f_X10_in (i2lI a2) 0 6) = 0 then
    bd2 (f_X10_bad σ (-2)) fun v7 σ8 =>
    some (v7, σ8)
  else
    if (f_X10_in (i2lI a3) 0 6) = 0 then
      bd2 (f_X10_bad σ (-2)) fun v11 σ12 =>
      some (v11, σ12)
    else
      if (f_X10_in (i2lI a4) 0 9) = 0 then
        bd2 (f_X10_bad σ (-2)) fun v15 σ16 =>
        some (v15, σ16)
      else
        if (f_X10_in (i2lI a5) 1 9) = 0 then
          bd2 (f_X10_bad σ (-2)) fun v19 σ20 =>
          some (v19, σ20)
        else
          if (f_X10_in (i2lI a6) 0 3) = 0 then
            bd2 (f_X10_bad σ (-2)) fun v23 σ24 =>
            some (v23, σ24)
          else
            if wI (σ 118 1) = 40 then
              bd2 (f_X10_full σ) fun v26 σ27 =>
              some (v26, σ27)
            else
              bd2 (f_X10_lays σ a1 a2 a3 a4 a5 a6) fun v28 σ29 =>
              some ((σ29 118 1) - 1, σ29)
def jn_X10_records_115 (kb : St → Int → Int → Option (Int × St)) (σ : St) (x2 : Int) (x3 : Int) (x4 : Int) (x6 : Int) (x7 : Int) (t0 : Int) : Option (Int × St) :=
  bd2 (f_X10_lays σ (remL (divL x4 65536) 6) t0 6 (remL (divL x4 4096) 10) ((remL (divL x4 1024) 9) + 1) x3) fun v20 σ21 =>
  kb σ21 x4 (x7 + 1)
def lp_X10_records_72 (x2 : Int) (x3 : Int) (x6 : Int) (kx : St → Option (Int × St)) : Nat → St → Int → Int → Option (Int × St)
  | 0, _, _, _ => none
  | n + 1, σ, x4, x7 =>
    if wI x7 < wI x2 then
      bnd (remL ((x4 * 1103515245) + 12345) 2147483648) fun v18 =>
      if wI x7 = 0 then
        jn_X10_records_115 (lp_X10_records_72 x2 x3 x6 kx n) σ x2 x3 v18 x6 x7 6
      else
        bd1 (f_X10_at σ ((σ 118 1) - 1) 0) fun v22 =>
        jn_X10_records_115 (lp_X10_records_72 x2 x3 x6 kx n) σ x2 x3 v18 x6 x7 v22
    else
      kx σ
def lp_X10_records_171 (kx : St → Option (Int × St)) : Nat → St → Int → Option (Int × St)
  | 0, _, _ => none
  | n + 1, σ, x7 =>
    if wI (x7 + 1) < wI (σ 118 1) then
      bd1 (f_X10_at σ (x7 + 1) 0) fun v25 =>
      wrA 240 σ 119 ((6 * x7) + 2) v25 fun σ26 =>
      lp_X10_records_171 kx n σ26 (x7 + 1)
    else
      kx σ
def f_X10_records (σ : St) (a1 : Int) (a2 : Int) (a3 : Int) : Option (Int × St) :=
if (f_X10_in (i2lI a1) 0 999999) = 0 then
  bd2 (f_X10_bad σ (-2)) fun v3 σ4 =>
  some (v3, σ4)
else
  if (f_X10_in (i2lI a2) 1 9) = 0 then
    bd2 (f_X10_bad σ (-2)) fun v7 σ8 =>
    some (v7, σ8)
  else
    if (f_X10_in (i2lI a3) 0 3) = 0 then
      bd2 (f_X10_bad σ (-2)) fun v11 σ12 =>
      some (v11, σ12)
    else
      if 40 < wI ((σ 118 1) + a2) then
        bd2 (f_X10_full σ) fun v14 σ15 =>
        some (v14, σ15)
      else
        bnd (i2lI a1) fun v16 =>
        lp_X10_records_72 a2 a3 (σ 118 1) (fun σ23 =>
            lp_X10_records_171 (fun σ27 =>
                some (σ27 118 1, σ27)) 200 σ23 (σ 118 1)) 200 σ v16 0
def lp_X10_nextOf_4 (σ0 : St) (x1 : Int) (kx : Option Int) : Nat → Int → Option Int
  | 0, _ => none
  | n + 1, x2 =>
    if wI x2 < wI (σ0 118 1) then
      bd1 (f_X10_at σ0 x2 5) fun v3 =>
      bd1 (f_X10_at σ0 x1 5) fun v4 =>
      if wI v3 = wI v4 then
        some x2
      else
        lp_X10_nextOf_4 σ0 x1 kx n (x2 + 1)
    else
      kx
def f_X10_nextOf (σ0 : St) (a1 : Int) : Option Int :=
bnd (a1 + 1) fun v1 =>
lp_X10_nextOf_4 σ0 a1 (
    some (-1)) 200 v1
def f_X10_of (σ : St) (a1 : Int) (a2 : Int) : Option (Int × St) :=
if (f_X10_isUnit σ a1) = 0 then
  bd2 (f_X10_bad σ (-2)) fun v3 σ4 =>
  some (v3, σ4)
else
  if (f_X10_in (i2lI a2) 0 6) = 0 then
    bd2 (f_X10_bad σ (-2)) fun v7 σ8 =>
    some (v7, σ8)
  else
    if wI a2 = 6 then
      bd1 (f_X10_nextOf σ a1) fun v10 =>
      some (v10, σ)
    else
      bd1 (f_X10_at σ a1 a2) fun v11 =>
      some (v11, σ)
def f_X10_empties (σ : St)  : Option (Int × St) :=
wrF σ 118 1 0 fun σ1 =>
some (σ 118 1, σ1)
def f_X10_other (σ : St) (a1 : Int) (a2 : Int) : Option (Int × St) :=
if (f_X10_isSound a1) = 0 then
  bd2 (f_X10_bad σ (-2)) fun v3 σ4 =>
  some (v3, σ4)
else
  if (f_X10_isSound a2) = 0 then
    bd2 (f_X10_bad σ (-2)) fun v7 σ8 =>
    some (v7, σ8)
  else
    rdA 6 σ 121 a1 fun v9 =>
    wrA 6 σ 121 a1 a2 fun σ10 =>
    some (v9, σ10)
def f_X10_fitter (σ : St) (a1 : Int) : Option (Int × St) :=
if (f_X10_in (i2lI a1) 0 4) = 0 then
  bd2 (f_X10_bad σ (-2)) fun v3 σ4 =>
  some (v3, σ4)
else
  wrF σ 118 5 a1 fun σ5 =>
  some (σ 118 5, σ5)
def f_X10_type (σ : St) (a1 : Int) : Option (Int × St) :=
if (f_X10_in (i2lI a1) 0 127) = 0 then
  bd2 (f_X10_bad σ (-2)) fun v3 σ4 =>
  some (v3, σ4)
else
  if wI (σ 118 14) = 120 then
    bd2 (f_X10_full σ) fun v6 σ7 =>
    some (v6, σ7)
  else
    wrA 120 σ 127 (σ 118 14) a1 fun σ8 =>
    wrF σ8 118 14 ((σ8 118 14) + 1) fun σ9 =>
    some (σ9 118 14, σ9)
def f_X10_clear (σ : St)  : Option (Int × St) :=
wrF σ 118 14 0 fun σ1 =>
some (σ 118 14, σ1)
def lp_X10_here_0 (kx : St → Option (Int × St)) : Nat → St → Option (Int × St)
  | 0, _ => none
  | n + 1, σ =>
    if wI (σ 118 15) < wI (σ 118 14) then
      rdA 120 σ 127 (σ 118 15) fun v2 =>
      if wI v2 = 32 then
        wrF σ 118 15 ((σ 118 15) + 1) fun σ4 =>
        lp_X10_here_0 kx n σ4
      else
        kx σ
    else
      kx σ
def jn_X10_here_38 (σ : St)  : Option (Int × St) :=
  if wI (σ 118 15) < wI (σ 118 14) then
    rdA 120 σ 127 (σ 118 15) fun v7 =>
    some (v7, σ)
  else
    some (0, σ)
def f_X10_here (σ : St)  : Option (Int × St) :=
lp_X10_here_0 (fun σ5 =>
    jn_X10_here_38 σ5) 200 σ
def f_X10_takes (σ : St) (a1 : Int) (a2 : Int) : Option (Int × St) :=
bd2 (f_X10_here σ) fun v1 σ2 =>
if (f_X10_in (i2lI v1) (i2lI a1) (i2lI a2)) = 0 then
  some ((-1), σ2)
else
  wrF σ2 118 15 ((σ2 118 15) + 1) fun σ5 =>
  some (v1 - a1, σ5)
def f_X10_letterOf (a0 : Int) (a1 : Int) : Int :=
(if wI a0 = 0 then (if wI a1 = 0 then 114 else (if wI a1 = 1 then 111 else 119)) else (if wI a1 = 0 then 116 else (if wI a1 = 1 then 114 else 101)))
def lp_X10_takesWord_25 (x2 : Int) (x3 : Int) (kx : St → Option (Int × St)) : Nat → St → Int → Option (Int × St)
  | 0, _, _ => none
  | n + 1, σ, x4 =>
    if wI x4 < wI (3 + x3) then
      if wI (x2 + x4) < wI (σ 118 14) then
        rdA 120 σ 127 (x2 + x4) fun v7 =>
        if wI v7 = wI (f_X10_letterOf x3 x4) then
          lp_X10_takesWord_25 x2 x3 kx n σ (x4 + 1)
        else
          wrF σ 118 15 x2 fun σ9 =>
          some ((-1), σ9)
      else
        wrF σ 118 15 (σ 118 14) fun σ10 =>
        some ((-1), σ10)
    else
      kx σ
def f_X10_takesWord (σ : St)  : Option (Int × St) :=
bd2 (f_X10_here σ) fun v1 σ2 =>
bnd (if wI v1 = 116 then 1 else 0) fun v4 =>
lp_X10_takesWord_25 (σ2 118 15) v4 (fun σ11 =>
    wrF σ11 118 15 (((σ2 118 15) + 3) + v4) fun σ12 =>
    some (v4, σ12)) 200 σ2 0
def jn_X10_readsRow_65 (kb : St → Int → Option (Int × St)) (σ : St) (x1 : Int) (x2 : Int) (x3 : Int) (t0 : Int) : Option (Int × St) :=
  if wI t0 < 0 then
    some ((-1), σ)
  else
    wrA 24 σ 128 (3 * x1) x2 fun σ8 =>
    wrA 24 σ8 128 ((3 * x1) + 1) x3 fun σ9 =>
    wrA 24 σ9 128 ((3 * x1) + 2) (t0 + 1) fun σ10 =>
    kb σ10 (x1 + 1)
def jn_X10_readsRow_48 (kb : St → Int → Option (Int × St)) (σ : St) (x1 : Int) (x2 : Int) (t0 : Int) : Option (Int × St) :=
  if wI t0 < 0 then
    jn_X10_readsRow_65 (kb) σ x1 x2 t0 (-1)
  else
    bd2 (f_X10_takes σ 49 57) fun v11 σ12 =>
    jn_X10_readsRow_65 (kb) σ12 x1 x2 t0 v11
def jn_X10_readsRow_15 (kb : St → Int → Option (Int × St)) (σ : St) (x1 : Int) : Option (Int × St) :=
  if wI x1 = 8 then
    some ((-1), σ)
  else
    bd2 (f_X10_takes σ 97 102) fun v3 σ4 =>
    if wI v3 < 0 then
      jn_X10_readsRow_48 (kb) σ4 x1 v3 (-1)
    else
      bd2 (f_X10_takes σ4 48 57) fun v13 σ14 =>
      jn_X10_readsRow_48 (kb) σ14 x1 v3 v13
def lp_X10_readsRow_2 (kx : St → Int → Option (Int × St)) : Nat → St → Int → Option (Int × St)
  | 0, _, _ => none
  | n + 1, σ, x1 =>
    if wI x1 = 0 then
      jn_X10_readsRow_15 (lp_X10_readsRow_2 kx n) σ x1
    else
      bd2 (f_X10_here σ) fun v15 σ16 =>
      if wI v15 = 59 then
        kx σ16 x1
      else
        jn_X10_readsRow_15 (lp_X10_readsRow_2 kx n) σ16 x1
def f_X10_readsRow (σ : St)  : Option (Int × St) :=
lp_X10_readsRow_2 (fun σ18 y19 =>
    some (y19, σ18)) 200 σ 0
def f_X10_questionOf (a0 : Int) : Int :=
(if wI a0 = 76 then 1 else (if wI a0 = 82 then 2 else (if wI a0 = 80 then 3 else (if wI a0 = 68 then 4 else 0))))
def jn_X10_hangs_46 (σ : St) (x2 : Int) : Option (Int × St) :=
  rdA 8 σ 134 (x2 - 1) fun v6 =>
  wrA 8 σ 134 (x2 - 1) (v6 + 1) fun σ7 =>
  some (0, σ7)
def f_X10_hangs (σ : St) (a1 : Int) (a2 : Int) : Option (Int × St) :=
if 0 < wI a2 then
  rdA 8 σ 134 (a2 - 1) fun v2 =>
  if wI v2 = 0 then
    rdA 8 σ 133 (a2 - 1) fun v4 =>
    wrA 128 σ 131 v4 a1 fun σ5 =>
    jn_X10_hangs_46 σ5 a2
  else
    rdA 8 σ 133 (a2 - 1) fun v8 =>
    wrA 128 σ 132 v8 a1 fun σ9 =>
    jn_X10_hangs_46 σ9 a2
else
  some (0, σ)
def jn_X10_readsTree_251 (kb : St → Int → Int → Int → Option (Int × St)) (σ : St) (x1 : Int) (x2 : Int) : Option (Int × St) :=
  bnd (if wI x2 = 0 then 1 else 0) fun v14 =>
  kb σ x1 x2 v14
def jn_X10_readsTree_68 (kb : St → Int → Int → Int → Option (Int × St)) (σ : St) (x1 : Int) (x2 : Int) (x4 : Int) (x5 : Int) : Option (Int × St) :=
  if wI x4 = 42 then
    wrF σ 118 15 ((σ 118 15) + 1) fun σ17 =>
    wrA 128 σ17 129 x1 0 fun σ18 =>
    wrA 128 σ18 130 x1 (σ18 118 21) fun σ19 =>
    wrF σ19 118 21 ((σ19 118 21) + 1) fun σ20 =>
    bd2 (f_X10_hangs σ20 x1 x2) fun v21 σ22 =>
    jn_X10_readsTree_251 (kb) σ22 (x1 + 1) x2
  else
    if 0 < wI x5 then
      if wI x2 < 7 then
        wrF σ 118 15 ((σ 118 15) + 1) fun σ25 =>
        bd2 (f_X10_takes σ25 48 (if wI x5 < 3 then 54 else 57)) fun v27 σ28 =>
        if wI v27 < 0 then
          some ((-1), σ28)
        else
          bd2 (f_X10_takes σ28 40 40) fun v30 σ31 =>
          if wI v30 < 0 then
            some ((-1), σ31)
          else
            wrA 128 σ31 129 x1 x5 fun σ33 =>
            wrA 128 σ33 130 x1 v27 fun σ34 =>
            bd2 (f_X10_hangs σ34 x1 x2) fun v35 σ36 =>
            wrA 8 σ36 133 x2 x1 fun σ37 =>
            wrA 8 σ37 134 x2 0 fun σ38 =>
            wrF σ38 118 22 (if wI (σ38 118 22) < wI (x2 + 1) then x2 + 1 else σ38 118 22) fun σ40 =>
            jn_X10_readsTree_251 (kb) σ40 (x1 + 1) (x2 + 1)
      else
        some ((-1), σ)
    else
      some ((-1), σ)
def lp_X10_readsTree_16 (kx : St → Option (Int × St)) : Nat → St → Int → Int → Int → Option (Int × St)
  | 0, _, _, _, _ => none
  | n + 1, σ, x1, x2, x3 =>
    if wI x3 = 0 then
      bd2 (f_X10_here σ) fun v4 σ5 =>
      bnd (f_X10_questionOf v4) fun v6 =>
      if 0 < wI x2 then
        rdA 8 σ5 134 (x2 - 1) fun v8 =>
        if wI v8 = 2 then
          bd2 (f_X10_takes σ5 41 41) fun v10 σ11 =>
          if wI v10 < 0 then
            some ((-1), σ11)
          else
            jn_X10_readsTree_251 (lp_X10_readsTree_16 kx n) σ11 x1 (x2 + (-1))
        else
          jn_X10_readsTree_68 (lp_X10_readsTree_16 kx n) σ5 x1 x2 v4 v6
      else
        jn_X10_readsTree_68 (lp_X10_readsTree_16 kx n) σ5 x1 x2 v4 v6
    else
      kx σ
def f_X10_readsTree (σ : St)  : Option (Int × St) :=
wrF σ 118 21 0 fun σ1 =>
wrF σ1 118 22 0 fun σ2 =>
lp_X10_readsTree_16 (fun σ43 =>
    some (σ43 118 21, σ43)) 200 σ2 0 0 0
def lp_X10_reads_115 (x2 : Int) (kx : St → Option (Int × St)) : Nat → St → Int → Option (Int × St)
  | 0, _, _ => none
  | n + 1, σ, x4 =>
    if wI x4 < wI (3 * x2) then
      rdA 24 σ 128 x4 fun v16 =>
      wrA 24 σ 120 x4 v16 fun σ17 =>
      lp_X10_reads_115 x2 kx n σ17 (x4 + 1)
    else
      kx σ
def lp_X10_reads_162 (x2 : Int) (kx : St → Option (Int × St)) : Nat → St → Int → Option (Int × St)
  | 0, _, _ => none
  | n + 1, σ, x4 =>
    if wI x4 < 128 then
      rdA 128 σ 129 x4 fun v22 =>
      wrA 128 σ 122 x4 v22 fun σ23 =>
      rdA 128 σ23 130 x4 fun v24 =>
      wrA 128 σ23 123 x4 v24 fun σ25 =>
      rdA 128 σ25 131 x4 fun v26 =>
      wrA 128 σ25 124 x4 v26 fun σ27 =>
      rdA 128 σ27 132 x4 fun v28 =>
      wrA 128 σ27 125 x4 v28 fun σ29 =>
      lp_X10_reads_162 x2 kx n σ29 (x4 + 1)
    else
      kx σ
def jn_X10_reads_72 (σ : St) (x1 : Int) (x2 : Int) (t0 : Int) : Option (Int × St) :=
  if wI t0 = 0 then
    if wI x2 < 0 then
      if wI x1 < 0 then
        some ((-10) - (σ 118 15), σ)
      else
        bd2 (f_X10_here σ) fun v9 σ10 =>
        some ((-10) - (σ10 118 15), σ10)
    else
      bd2 (f_X10_here σ) fun v11 σ12 =>
      some ((-10) - (σ12 118 15), σ12)
  else
    if wI x1 = 0 then
      wrF σ 118 3 x2 fun σ14 =>
      lp_X10_reads_115 x2 (fun σ18 =>
          some (x2, σ18)) 200 σ14 0
    else
      wrF σ 118 10 x2 fun σ19 =>
      wrF σ19 118 11 (σ19 118 22) fun σ20 =>
      lp_X10_reads_162 x2 (fun σ30 =>
          some (x2, σ30)) 200 σ20 0
def jn_X10_reads_33 (σ : St) (x1 : Int) (t0 : Int) : Option (Int × St) :=
  if wI t0 < 0 then
    jn_X10_reads_72 σ x1 t0 0
  else
    bd2 (f_X10_takes σ 59 59) fun v31 σ32 =>
    if wI v31 = 0 then
      bd2 (f_X10_here σ32) fun v34 σ35 =>
      jn_X10_reads_72 σ35 x1 t0 (if wI v34 = 0 then (if wI (σ35 118 15) = wI (σ35 118 14) then 1 else 0) else 0)
    else
      jn_X10_reads_72 σ32 x1 t0 0
def f_X10_reads (σ : St)  : Option (Int × St) :=
wrF σ 118 15 0 fun σ1 =>
bd2 (f_X10_takesWord σ1) fun v2 σ3 =>
if wI v2 < 0 then
  jn_X10_reads_33 σ3 v2 (-1)
else
  if wI v2 = 0 then
    bd2 (f_X10_readsRow σ3) fun v40 σ41 =>
    jn_X10_reads_33 σ41 v2 v40
  else
    bd2 (f_X10_readsTree σ3) fun v42 σ43 =>
    jn_X10_reads_33 σ43 v2 v42
def f_X10_isTarget (σ0 : St) (a1 : Int) : Int :=
(f_X10_in (i2lI a1) 0 (i2lI ((σ0 118 3) - 1)))
def f_X10_targetLeft (σ0 : St) (a1 : Int) : Option Int :=
if wI a1 = 0 then
  some 6
else
  rdA 24 σ0 120 (3 * (a1 - 1)) fun v2 =>
  some v2
def f_X10_targetRight (σ0 : St) (a1 : Int) : Option Int :=
if wI a1 = wI ((σ0 118 3) - 1) then
  some 6
else
  rdA 24 σ0 120 (3 * (a1 + 1)) fun v2 =>
  some v2
def f_X10_target (σ : St) (a1 : Int) (a2 : Int) : Option (Int × St) :=
if (f_X10_isTarget σ a1) = 0 then
  bd2 (f_X10_bad σ (-2)) fun v3 σ4 =>
  some (v3, σ4)
else
  if (f_X10_in (i2lI a2) 0 4) = 0 then
    bd2 (f_X10_bad σ (-2)) fun v7 σ8 =>
    some (v7, σ8)
  else
    if wI a2 < 3 then
      rdA 24 σ 120 ((3 * a1) + a2) fun v10 =>
      some (v10, σ)
    else
      if wI a2 = 3 then
        bd1 (f_X10_targetLeft σ a1) fun v12 =>
        some (v12, σ)
      else
        bd1 (f_X10_targetRight σ a1) fun v13 =>
        some (v13, σ)
def f_X10_answers (σ0 : St) (a1 : Int) (a2 : Int) (a3 : Int) (a4 : Int) (a5 : Int) : Option Int :=
rdA 128 σ0 123 a1 fun v1 =>
rdA 128 σ0 122 a1 fun v2 =>
if wI v2 = 1 then
  some (if wI a2 = wI v1 then 1 else 0)
else
  if wI v2 = 2 then
    some (if wI a3 = wI v1 then 1 else 0)
  else
    if wI v2 = 3 then
      some (if wI v1 < wI a4 then 1 else 0)
    else
      some (if wI v1 < wI a5 then 1 else 0)
def f_X10_unitAnswers (σ0 : St) (a1 : Int) (a2 : Int) : Option Int :=
bd1 (f_X10_at σ0 a2 1) fun v1 =>
bd1 (f_X10_at σ0 a2 2) fun v2 =>
bd1 (f_X10_at σ0 a2 3) fun v3 =>
bd1 (f_X10_at σ0 a2 4) fun v4 =>
bd1 (f_X10_answers σ0 a1 v1 v2 v3 v4) fun v5 =>
some v5
def f_X10_targetAnswers (σ0 : St) (a1 : Int) (a2 : Int) : Option Int :=
bd1 (f_X10_targetLeft σ0 a2) fun v1 =>
bd1 (f_X10_targetRight σ0 a2) fun v2 =>
rdA 24 σ0 120 ((3 * a2) + 1) fun v3 =>
rdA 24 σ0 120 ((3 * a2) + 2) fun v4 =>
bd1 (f_X10_answers σ0 a1 v1 v2 v3 v4) fun v5 =>
some v5
def jn_X10_leafOf_30 (σ0 : St) (kb : Int → Option Int) (x1 : Int) (x2 : Int) (x3 : Int) (t0 : Int) : Option Int :=
  if wI t0 = 0 then
    rdA 128 σ0 125 x3 fun v7 =>
    kb v7
  else
    rdA 128 σ0 124 x3 fun v8 =>
    kb v8
def lp_X10_leafOf_2 (σ0 : St) (x1 : Int) (x2 : Int) (kx : Int → Option Int) : Nat → Int → Option Int
  | 0, _ => none
  | n + 1, x3 =>
    rdA 128 σ0 122 x3 fun v1 =>
    if wI v1 = 0 then
      kx x3
    else
      if wI x1 = 0 then
        bd1 (f_X10_targetAnswers σ0 x3 x2) fun v4 =>
        jn_X10_leafOf_30 σ0 (lp_X10_leafOf_2 σ0 x1 x2 kx n) x1 x2 x3 v4
      else
        bd1 (f_X10_unitAnswers σ0 x3 x2) fun v9 =>
        jn_X10_leafOf_30 σ0 (lp_X10_leafOf_2 σ0 x1 x2 kx n) x1 x2 x3 v9
def f_X10_leafOf (σ0 : St) (a1 : Int) (a2 : Int) : Option Int :=
lp_X10_leafOf_2 σ0 a1 a2 (fun y11 =>
    rdA 128 σ0 123 y11 fun v12 =>
    some v12) 200 0
def lp_X10_emptyLeaves_17 (σ0 : St) (x1 : Int) (x2 : Int) (kx : Int → Option Int) : Nat → Int → Int → Option Int
  | 0, _, _ => none
  | n + 1, x3, x4 =>
    if wI x4 < wI (σ0 118 1) then
      if wI x3 = 0 then
        bd1 (f_X10_leafOf σ0 1 x4) fun v4 =>
        bnd (if wI v4 = wI x2 then 1 else 0) fun v6 =>
        lp_X10_emptyLeaves_17 σ0 x1 x2 kx n v6 (x4 + 1)
      else
        lp_X10_emptyLeaves_17 σ0 x1 x2 kx n 1 (x4 + 1)
    else
      kx x3
def lp_X10_emptyLeaves_4 (σ0 : St) (kx : Int → Option Int) : Nat → Int → Int → Option Int
  | 0, _, _ => none
  | n + 1, x1, x2 =>
    if wI x2 < wI (σ0 118 10) then
      lp_X10_emptyLeaves_17 σ0 x1 x2 (fun y8 =>
          bnd (x1 + (if wI y8 = 0 then 1 else 0)) fun v10 =>
          lp_X10_emptyLeaves_4 σ0 kx n v10 (x2 + 1)) 200 0 0
    else
      kx x1
def f_X10_emptyLeaves (σ0 : St)  : Option Int :=
lp_X10_emptyLeaves_4 σ0 (fun y12 =>
    some y12) 200 0 0
def f_X10_tree (σ : St) (a1 : Int) : Option (Int × St) :=
if (f_X10_in (i2lI a1) 0 2) = 0 then
  bd2 (f_X10_bad σ (-2)) fun v3 σ4 =>
  some (v3, σ4)
else
  if wI a1 = 0 then
    some (σ 118 10, σ)
  else
    if wI a1 = 1 then
      some (σ 118 11, σ)
    else
      bd1 (f_X10_emptyLeaves σ) fun v7 =>
      some (v7, σ)
def jn_X10_leaf_40 (σ : St) (x1 : Int) (x2 : Int) : Option (Int × St) :=
  bd1 (f_X10_leafOf σ (if wI x1 = 0 then 1 else 0) x2) fun v11 =>
  some (v11, σ)
def f_X10_leaf (σ : St) (a1 : Int) (a2 : Int) : Option (Int × St) :=
if (f_X10_in (i2lI a1) 0 1) = 0 then
  bd2 (f_X10_bad σ (-2)) fun v3 σ4 =>
  some (v3, σ4)
else
  if wI a1 = 0 then
    if (f_X10_isUnit σ a2) = 0 then
      bd2 (f_X10_bad σ (-2)) fun v8 σ9 =>
      some (v8, σ9)
    else
      jn_X10_leaf_40 σ a1 a2
  else
    if (f_X10_isTarget σ a2) = 0 then
      bd2 (f_X10_bad σ (-2)) fun v15 σ16 =>
      some (v15, σ16)
    else
      jn_X10_leaf_40 σ a1 a2
def lp_X10_wayLong_4 (σ0 : St) (x1 : Int) (kx : Int → Option Int) : Nat → Int → Int → Option Int
  | 0, _, _ => none
  | n + 1, x2, x3 =>
    rdA 128 σ0 122 x2 fun v1 =>
    if wI v1 = 0 then
      kx x3
    else
      bd1 (f_X10_targetAnswers σ0 x2 x1) fun v3 =>
      if v3 = 0 then
        rdA 128 σ0 125 x2 fun v6 =>
        lp_X10_wayLong_4 σ0 x1 kx n v6 (x3 + 1)
      else
        rdA 128 σ0 124 x2 fun v7 =>
        lp_X10_wayLong_4 σ0 x1 kx n v7 (x3 + 1)
def f_X10_wayLong (σ0 : St) (a1 : Int) : Option Int :=
lp_X10_wayLong_4 σ0 a1 (fun y8 =>
    some y8) 200 0 0
def lp_X10_goesAlong_5 (σ0 : St) (x1 : Int) (x2 : Int) (kx : Int → Option Int) : Nat → Int → Int → Option Int
  | 0, _, _ => none
  | n + 1, x3, x4 =>
    rdA 128 σ0 122 x3 fun v1 =>
    if wI v1 = 0 then
      kx x4
    else
      bd1 (f_X10_unitAnswers σ0 x3 x1) fun v3 =>
      bd1 (f_X10_targetAnswers σ0 x3 x2) fun v5 =>
      if v3 = v5 then
        bd1 (f_X10_targetAnswers σ0 x3 x2) fun v8 =>
        if v8 = 0 then
          rdA 128 σ0 125 x3 fun v11 =>
          lp_X10_goesAlong_5 σ0 x1 x2 kx n v11 (x4 + 1)
        else
          rdA 128 σ0 124 x3 fun v12 =>
          lp_X10_goesAlong_5 σ0 x1 x2 kx n v12 (x4 + 1)
      else
        kx x4
def f_X10_goesAlong (σ0 : St) (a1 : Int) (a2 : Int) : Option Int :=
lp_X10_goesAlong_5 σ0 a1 a2 (fun y13 =>
    some y13) 200 0 0
def jn_X10_chooses_110 (kb : St → Int → Int → Option (Int × St)) (σ : St) (x1 : Int) (x2 : Int) (x3 : Int) (x4 : Int) (x5 : Int) (x6 : Int) (t0 : Int) : Option (Int × St) :=
  bnd (if wI x5 < wI t0 then t0 else x5) fun v12 =>
  kb σ v12 (x6 + 1)
def jn_X10_chooses_92 (kb : St → Int → Int → Option (Int × St)) (σ : St) (x1 : Int) (x2 : Int) (x3 : Int) (x4 : Int) (x5 : Int) (x6 : Int) (t0 : Int) : Option (Int × St) :=
  if wI t0 = 0 then
    jn_X10_chooses_110 (kb) σ x1 x2 x3 x4 x5 x6 (-1)
  else
    bd1 (f_X10_goesAlong σ x6 x1) fun v14 =>
    jn_X10_chooses_110 (kb) σ x1 x2 x3 x4 x5 x6 v14
def lp_X10_chooses_58 (x1 : Int) (x2 : Int) (x3 : Int) (x4 : Int) (kx : St → Int → Option (Int × St)) : Nat → St → Int → Int → Option (Int × St)
  | 0, _, _, _ => none
  | n + 1, σ, x5, x6 =>
    if wI x6 < wI (σ 118 1) then
      if wI x6 = wI (σ 118 27) then
        jn_X10_chooses_92 (lp_X10_chooses_58 x1 x2 x3 x4 kx n) σ x1 x2 x3 x4 x5 x6 0
      else
        bd1 (f_X10_at σ x6 0) fun v15 =>
        jn_X10_chooses_92 (lp_X10_chooses_58 x1 x2 x3 x4 kx n) σ x1 x2 x3 x4 x5 x6 (if wI v15 = wI x2 then 1 else 0)
    else
      kx σ x5
def lp_X10_chooses_146 (x1 : Int) (x2 : Int) (x4 : Int) (x5 : Int) (kx : St → Int → Option (Int × St)) : Nat → St → Int → Int → Option (Int × St)
  | 0, _, _, _ => none
  | n + 1, σ, x6, x7 =>
    if wI x7 < wI (σ 118 1) then
      if wI x7 = wI (σ 118 27) then
        lp_X10_chooses_146 x1 x2 x4 x5 kx n σ x6 (x7 + 1)
      else
        bd1 (f_X10_at σ x7 0) fun v25 =>
        if wI v25 = wI x2 then
          bd1 (f_X10_goesAlong σ x7 x1) fun v27 =>
          if wI v27 = wI x5 then
            wrA 320 σ 135 ((40 * x1) + x6) x7 fun σ29 =>
            lp_X10_chooses_146 x1 x2 x4 x5 kx n σ29 (x6 + 1) (x7 + 1)
          else
            lp_X10_chooses_146 x1 x2 x4 x5 kx n σ x6 (x7 + 1)
        else
          lp_X10_chooses_146 x1 x2 x4 x5 kx n σ x6 (x7 + 1)
    else
      kx σ x6
def lp_X10_chooses_28 (x1 : Int) (x4 : Int) (kx : St → Option (Int × St)) : Nat → St → Int → Int → Option (Int × St)
  | 0, _, _, _ => none
  | n + 1, σ, x2, x3 =>
    if wI (andI (shrI x3 x2) 1) = 0 then
      bnd (orI x3 (shlI 1 x2)) fun v6 =>
      wrF σ 118 29 ((σ 118 29) + 1) fun σ7 =>
      lp_X10_chooses_58 x1 x2 v6 x4 (fun σ18 y19 =>
          if wI y19 = (-1) then
            wrF σ18 118 28 ((σ18 118 28) + (x4 + 1)) fun σ21 =>
            rdA 6 σ21 121 x2 fun v22 =>
            lp_X10_chooses_28 x1 x4 kx n σ21 v22 v6
          else
            lp_X10_chooses_146 x1 x2 x4 y19 (fun σ30 y31 =>
                wrA 8 σ30 136 x1 y31 fun σ32 =>
                wrF σ32 118 28 ((σ32 118 28) + (x4 - y19)) fun σ33 =>
                some (1, σ33)) 200 σ18 0 0) 200 σ7 (-1) 0
    else
      kx σ
def f_X10_chooses (σ : St) (a1 : Int) : Option (Int × St) :=
rdA 24 σ 120 (3 * a1) fun v1 =>
bd1 (f_X10_wayLong σ a1) fun v2 =>
wrF σ 118 28 0 fun σ3 =>
wrF σ3 118 29 0 fun σ4 =>
lp_X10_chooses_28 a1 v2 (fun σ34 =>
    some (0, σ34)) 200 σ4 v1 0
def jn_X10_choice_27 (σ : St) (x1 : Int) (x2 : Int) : Option (Int × St) :=
  if wI x2 < (-1) then
    bd2 (f_X10_bad σ (-10)) fun v8 σ9 =>
    some (v8, σ9)
  else
    if wI (σ 118 3) = 0 then
      bd2 (f_X10_no σ) fun v11 σ12 =>
      some (v11, σ12)
    else
      bd2 (f_X10_chooses σ x1) fun v13 σ14 =>
      if v13 = 0 then
        bd2 (f_X10_no σ14) fun v17 σ18 =>
        some (v17, σ18)
      else
        if wI x2 = (-1) then
          rdA 8 σ14 136 x1 fun v20 =>
          some (v20, σ14)
        else
          rdA 8 σ14 136 x1 fun v21 =>
          if wI x2 < wI v21 then
            rdA 320 σ14 135 ((40 * x1) + x2) fun v23 =>
            some (v23, σ14)
          else
            some ((-5), σ14)
def f_X10_choice (σ : St) (a1 : Int) (a2 : Int) : Option (Int × St) :=
if (f_X10_in (i2lI a1) 0 7) = 0 then
  bd2 (f_X10_bad σ (-10)) fun v3 σ4 =>
  some (v3, σ4)
else
  if 0 < wI (σ 118 3) then
    if wI a1 < wI (σ 118 3) then
      jn_X10_choice_27 σ a1 a2
    else
      bd2 (f_X10_bad σ (-10)) fun v24 σ25 =>
      some (v24, σ25)
  else
    jn_X10_choice_27 σ a1 a2
def f_X10_steps (σ : St) (a1 : Int) : Option (Int × St) :=
if (f_X10_isTarget σ a1) = 0 then
  bd2 (f_X10_bad σ (-2)) fun v3 σ4 =>
  some (v3, σ4)
else
  bd2 (f_X10_chooses σ a1) fun v5 σ6 =>
  some ((if v5 = 0 then (-1) else σ6 118 28), σ6)
def f_X10_tried (σ : St) (a1 : Int) : Option (Int × St) :=
if (f_X10_isTarget σ a1) = 0 then
  bd2 (f_X10_bad σ (-2)) fun v3 σ4 =>
  some (v3, σ4)
else
  bd2 (f_X10_chooses σ a1) fun v5 σ6 =>
  some (σ6 118 29, σ6)
def f_X10_fitAs (σ0 : St) (a1 : Int) (a2 : Int) (a3 : Int) : Option Int :=
bd1 (f_X10_at σ0 a2 3) fun v1 =>
rdA 24 σ0 120 ((3 * a3) + 1) fun v2 =>
bnd (f_X10_far v1 v2) fun v3 =>
bd1 (f_X10_at σ0 a2 4) fun v4 =>
rdA 24 σ0 120 ((3 * a3) + 2) fun v5 =>
bnd (v3 + (f_X10_far v4 v5)) fun v6 =>
bd1 (f_X10_at σ0 a2 1) fun v7 =>
bd1 (f_X10_targetLeft σ0 a3) fun v8 =>
bd1 (f_X10_at σ0 a2 2) fun v10 =>
bd1 (f_X10_targetRight σ0 a3) fun v11 =>
bnd ((v6 + (if wI v7 = wI v8 then 0 else 2)) + (if wI v10 = wI v11 then 0 else 2)) fun v13 =>
if wI a1 = 0 then
  some v6
else
  if wI a1 = 1 then
    some v13
  else
    if wI a1 = 2 then
      some (v6 + v3)
    else
      if wI a1 = 3 then
        some (2 * v13)
      else
        some (divI (v6 + v3) 2)
def f_X10_fit (σ : St) (a1 : Int) (a2 : Int) : Option (Int × St) :=
if (f_X10_isUnit σ a1) = 0 then
  bd2 (f_X10_bad σ (-2)) fun v3 σ4 =>
  some (v3, σ4)
else
  if (f_X10_isTarget σ a2) = 0 then
    bd2 (f_X10_bad σ (-2)) fun v7 σ8 =>
    some (v7, σ8)
  else
    bd1 (f_X10_fitAs σ (σ 118 5) a1 a2) fun v9 =>
    some (v9, σ)
def f_X10_jointOf (σ0 : St) (a1 : Int) (a2 : Int) : Option Int :=
bd1 (f_X10_nextOf σ0 a1) fun v1 =>
if wI v1 = wI a2 then
  some 0
else
  bd1 (f_X10_at σ0 a1 3) fun v3 =>
  bd1 (f_X10_at σ0 a2 3) fun v4 =>
  bd1 (f_X10_at σ0 a1 2) fun v5 =>
  bd1 (f_X10_at σ0 a2 0) fun v6 =>
  bd1 (f_X10_at σ0 a2 1) fun v8 =>
  bd1 (f_X10_at σ0 a1 0) fun v9 =>
  some (((3 + (f_X10_far v3 v4)) + (if wI v5 = wI v6 then 0 else 2)) + (if wI v8 = wI v9 then 0 else 2))
def f_X10_joint (σ : St) (a1 : Int) (a2 : Int) : Option (Int × St) :=
if (f_X10_isUnit σ a1) = 0 then
  bd2 (f_X10_bad σ (-2)) fun v3 σ4 =>
  some (v3, σ4)
else
  if (f_X10_isUnit σ a2) = 0 then
    bd2 (f_X10_bad σ (-2)) fun v7 σ8 =>
    some (v7, σ8)
  else
    bd1 (f_X10_jointOf σ a1 a2) fun v9 =>
    some (v9, σ)
def f_X10_begins (σ : St)  : Option (Int × St) :=
wrF σ 118 34 (-1) fun σ1 =>
wrF σ1 118 35 (-1) fun σ2 =>
wrF σ2 118 36 (-1) fun σ3 =>
wrF σ3 118 37 0 fun σ4 =>
some (0, σ4)
def f_X10_offers (σ : St) (a1 : Int) : Option (Int × St) :=
if wI (σ 118 34) = (-1) then
  wrF σ 118 35 (σ 118 34) fun σ2 =>
  wrF σ2 118 34 a1 fun σ3 =>
  some (0, σ3)
else
  if wI a1 < wI (σ 118 34) then
    wrF σ 118 35 (σ 118 34) fun σ5 =>
    wrF σ5 118 34 a1 fun σ6 =>
    some (0, σ6)
  else
    if wI (σ 118 35) = (-1) then
      wrF σ 118 35 a1 fun σ8 =>
      some (0, σ8)
    else
      if wI a1 < wI (σ 118 35) then
        wrF σ 118 35 a1 fun σ10 =>
        some (0, σ10)
      else
        some (0, σ)
def jn_X10_takesIn_118 (σ : St) (x1 : Int) (x2 : Int) (t0 : Int) : Option (Int × St) :=
  wrF σ 118 37 t0 fun σ12 =>
  rdA 320 σ12 139 x1 fun v13 =>
  if wI (σ12 118 36) < wI (v13 + x2) then
    rdA 320 σ12 139 x1 fun v15 =>
    wrF σ12 118 36 (v15 + x2) fun σ16 =>
    some (0, σ16)
  else
    wrF σ12 118 36 (σ12 118 36) fun σ17 =>
    some (0, σ17)
def jn_X10_takesIn_84 (σ : St) (x1 : Int) (x2 : Int) (x5 : Int) : Option (Int × St) :=
  rdA 320 σ 140 x1 fun v10 =>
  if 0 < cmpL (x5 + (i2lI v10)) 1000000000 then
    jn_X10_takesIn_118 σ x1 x2 1000000000
  else
    rdA 320 σ 140 x1 fun v18 =>
    jn_X10_takesIn_118 σ x1 x2 (x5 + (i2lI v18))
def jn_X10_takesIn_43 (σ : St) (x1 : Int) (x2 : Int) (x3 : Int) (x4 : Int) : Option (Int × St) :=
  bnd (if wI x3 = (-1) then 0 else (if wI x4 < wI x3 then 0 else i2lI (σ 118 37))) fun v8 =>
  if wI x3 = (-1) then
    jn_X10_takesIn_84 σ x1 x2 v8
  else
    if wI x3 < wI x4 then
      jn_X10_takesIn_118 σ x1 x2 (σ 118 37)
    else
      jn_X10_takesIn_84 σ x1 x2 v8
def f_X10_takesIn (σ : St) (a1 : Int) (a2 : Int) : Option (Int × St) :=
rdA 320 σ 137 a1 fun v1 =>
bnd (v1 + a2) fun v2 =>
bd2 (f_X10_offers σ v2) fun v3 σ4 =>
rdA 320 σ4 138 a1 fun v5 =>
if wI v5 = (-1) then
  jn_X10_takesIn_43 σ4 a1 a2 (σ 118 34) v2
else
  rdA 320 σ4 138 a1 fun v22 =>
  bd2 (f_X10_offers σ4 (v22 + a2)) fun v23 σ24 =>
  jn_X10_takesIn_43 σ24 a1 a2 (σ 118 34) v2
def lp_X10_chains_15 (x1 : Int) (kx : St → Int → Option (Int × St)) : Nat → St → Int → Int → Option (Int × St)
  | 0, _, _, _ => none
  | n + 1, σ, x2, x3 =>
    if wI x3 < wI (σ 118 3) then
      if wI x2 = 0 then
        kx σ x2
      else
        bd2 (f_X10_chooses σ x3) fun v5 σ6 =>
        lp_X10_chains_15 x1 kx n σ6 v5 (x3 + 1)
    else
      kx σ x2
def lp_X10_chains_103 (x1 : Int) (x2 : Int) (x3 : Int) (x4 : Int) (x5 : Int) (x6 : Int) (x7 : Int) (kx : St → Option (Int × St)) : Nat → St → Int → Option (Int × St)
  | 0, _, _ => none
  | n + 1, σ, x8 =>
    if wI (x3 + 1) < wI (σ 118 3) then
      rdA 8 σ 136 (x3 + 1) fun v21 =>
      if wI x8 < wI v21 then
        bnd ((40 * (x3 + 1)) + x8) fun v23 =>
        rdA 320 σ 135 v23 fun v24 =>
        bd1 (f_X10_jointOf σ x6 v24) fun v25 =>
        bd2 (f_X10_takesIn σ v23 v25) fun v26 σ27 =>
        lp_X10_chains_103 x1 x2 x3 x4 x5 x6 x7 kx n σ27 (x8 + 1)
      else
        kx σ
    else
      kx σ
def jn_X10_chains_162 (kb : St → Int → Option (Int × St)) (σ : St) (x1 : Int) (x2 : Int) (x3 : Int) (x4 : Int) (x5 : Int) (x7 : Int) : Option (Int × St) :=
  bnd (if wI (x3 + 1) = wI (σ 118 3) then 1 else 0) fun v30 =>
  wrA 320 σ 137 x5 (x7 + (if v30 = 0 then σ 118 34 else 0)) fun σ32 =>
  wrA 320 σ32 138 x5 (if v30 = 0 then (if wI (σ32 118 35) = (-1) then (-1) else x7 + (σ32 118 35)) else (-1)) fun σ34 =>
  wrA 320 σ34 139 x5 (x7 + (if v30 = 0 then σ34 118 36 else 0)) fun σ36 =>
  wrA 320 σ36 140 x5 (if v30 = 0 then σ36 118 37 else 1) fun σ38 =>
  kb σ38 (x4 + 1)
def lp_X10_chains_57 (x1 : Int) (x2 : Int) (x3 : Int) (kx : St → Option (Int × St)) : Nat → St → Int → Option (Int × St)
  | 0, _, _ => none
  | n + 1, σ, x4 =>
    rdA 8 σ 136 x3 fun v13 =>
    if wI x4 < wI v13 then
      bnd ((40 * x3) + x4) fun v15 =>
      rdA 320 σ 135 v15 fun v16 =>
      bd1 (f_X10_fitAs σ x1 v16 x3) fun v17 =>
      bd2 (f_X10_begins σ) fun v18 σ19 =>
      lp_X10_chains_103 x1 x2 x3 x4 v15 v16 v17 (fun σ28 =>
          jn_X10_chains_162 (lp_X10_chains_57 x1 x2 x3 kx n) σ28 x1 x2 x3 x4 v15 v17) 200 σ19 0
    else
      kx σ
def lp_X10_chains_46 (x1 : Int) (x2 : Int) (kx : St → Option (Int × St)) : Nat → St → Int → Option (Int × St)
  | 0, _, _ => none
  | n + 1, σ, x3 =>
    if wI x3 < 0 then
      kx σ
    else
      if wI x2 = 0 then
        kx σ
      else
        lp_X10_chains_57 x1 x2 x3 (fun σ45 =>
            lp_X10_chains_46 x1 x2 kx n σ45 (x3 + (-1))) 200 σ 0
def lp_X10_chains_294 (x2 : Int) (kx : St → Option (Int × St)) : Nat → St → Int → Option (Int × St)
  | 0, _, _ => none
  | n + 1, σ, x3 =>
    if wI x2 = 0 then
      kx σ
    else
      rdA 8 σ 136 0 fun v50 =>
      if wI x3 < wI v50 then
        bd2 (f_X10_takesIn σ x3 0) fun v52 σ53 =>
        lp_X10_chains_294 x2 kx n σ53 (x3 + 1)
      else
        kx σ
def jn_X10_chains_288 (σ : St) (x2 : Int) : Option (Int × St) :=
  bd2 (f_X10_begins σ) fun v47 σ48 =>
  lp_X10_chains_294 x2 (fun σ54 =>
      if x2 = 0 ∨ x2 = 1 then some (x2, σ54) else none) 200 σ48 0
def jn_X10_chains_39 (σ : St) (x1 : Int) (x2 : Int) : Option (Int × St) :=
  bnd ((σ 118 3) - 1) fun v10 =>
  lp_X10_chains_46 x1 x2 (fun σ46 =>
      jn_X10_chains_288 σ46 x2) 200 σ v10
def f_X10_chains (σ : St) (a1 : Int) : Option (Int × St) :=
bnd (if 0 < wI (σ 118 3) then 1 else 0) fun v2 =>
lp_X10_chains_15 a1 (fun σ8 y9 =>
    jn_X10_chains_39 σ8 a1 y9) 200 σ v2 0
def f_X10_fitNow (σ0 : St) (a1 : Int) (a2 : Int) : Option Int :=
bd1 (f_X10_fitAs σ0 (σ0 118 39) a1 a2) fun v1 =>
some v1
def jn_X10_layChain_68 (kb : St → Int → Int → Option (Int × St)) (σ : St) (x1 : Int) (x2 : Int) (x3 : Int) (x4 : Int) (x5 : Int) (t0 : Int) : Option (Int × St) :=
  rdA 320 σ 137 x5 fun v7 =>
  bnd (if wI (v7 + t0) = wI x1 then x4 else x3) fun v9 =>
  kb σ v9 (x4 + (-1))
def lp_X10_layChain_27 (x1 : Int) (x2 : Int) (kx : St → Int → Option (Int × St)) : Nat → St → Int → Int → Option (Int × St)
  | 0, _, _, _ => none
  | n + 1, σ, x3, x4 =>
    if wI x4 < 0 then
      kx σ x3
    else
      bnd ((40 * x2) + x4) fun v5 =>
      if wI x2 = 0 then
        jn_X10_layChain_68 (lp_X10_layChain_27 x1 x2 kx n) σ x1 x2 x3 x4 v5 0
      else
        rdA 8 σ 141 (x2 - 1) fun v11 =>
        rdA 320 σ 135 v5 fun v12 =>
        bd1 (f_X10_jointOf σ v11 v12) fun v13 =>
        jn_X10_layChain_68 (lp_X10_layChain_27 x1 x2 kx n) σ x1 x2 x3 x4 v5 v13
def lp_X10_layChain_7 (kx : St → Option (Int × St)) : Nat → St → Int → Int → Option (Int × St)
  | 0, _, _, _ => none
  | n + 1, σ, x1, x2 =>
    if wI x2 < wI (σ 118 3) then
      rdA 8 σ 136 x2 fun v2 =>
      bnd (v2 - 1) fun v3 =>
      lp_X10_layChain_27 x1 x2 (fun σ14 y15 =>
          bnd ((40 * x2) + y15) fun v16 =>
          rdA 320 σ14 135 v16 fun v17 =>
          rdA 320 σ14 137 v16 fun v18 =>
          bd1 (f_X10_fitNow σ14 v17 x2) fun v19 =>
          bnd (v18 - v19) fun v20 =>
          wrA 8 σ14 141 x2 v17 fun σ21 =>
          lp_X10_layChain_7 kx n σ21 v20 (x2 + 1)) 200 σ (-1) v3
    else
      kx σ
def f_X10_layChain (σ : St)  : Option (Int × St) :=
lp_X10_layChain_7 (fun σ22 =>
    some (0, σ22)) 200 σ (σ 118 34) 0
def f_X10_chainsNow (σ : St)  : Option (Int × St) :=
wrF σ 118 39 (σ 118 5) fun σ1 =>
bd2 (f_X10_chains σ1 (σ1 118 5)) fun v2 σ3 =>
some (v2, σ3)
def f_X10_cost (σ : St)  : Option (Int × St) :=
bd2 (f_X10_chainsNow σ) fun v1 σ2 =>
if v1 = 0 then
  bd2 (f_X10_no σ2) fun v5 σ6 =>
  some (v5, σ6)
else
  some (σ2 118 34, σ2)
def jn_X10_chain_34 (σ : St) (x1 : Int) : Option (Int × St) :=
  bd2 (f_X10_chainsNow σ) fun v7 σ8 =>
  if v7 = 0 then
    bd2 (f_X10_no σ8) fun v11 σ12 =>
    some (v11, σ12)
  else
    bd2 (f_X10_layChain σ8) fun v13 σ14 =>
    rdA 8 σ14 141 x1 fun v15 =>
    some (v15, σ14)
def f_X10_chain (σ : St) (a1 : Int) : Option (Int × St) :=
if (f_X10_in (i2lI a1) 0 7) = 0 then
  bd2 (f_X10_bad σ (-2)) fun v3 σ4 =>
  some (v3, σ4)
else
  if 0 < wI (σ 118 3) then
    if wI a1 < wI (σ 118 3) then
      jn_X10_chain_34 σ a1
    else
      bd2 (f_X10_bad σ (-2)) fun v16 σ17 =>
      some (v16, σ17)
  else
    jn_X10_chain_34 σ a1
def f_X10_ways (σ : St)  : Option (Int × St) :=
bd2 (f_X10_chainsNow σ) fun v1 σ2 =>
if v1 = 0 then
  bd2 (f_X10_no σ2) fun v5 σ6 =>
  some (v5, σ6)
else
  some (σ2 118 37, σ2)
def f_X10_next (σ : St)  : Option (Int × St) :=
bd2 (f_X10_chainsNow σ) fun v1 σ2 =>
if v1 = 0 then
  bd2 (f_X10_no σ2) fun v5 σ6 =>
  some (v5, σ6)
else
  some (σ2 118 35, σ2)
def f_X10_dearest (σ : St)  : Option (Int × St) :=
bd2 (f_X10_chainsNow σ) fun v1 σ2 =>
if v1 = 0 then
  bd2 (f_X10_no σ2) fun v5 σ6 =>
  some (v5, σ6)
else
  some (σ2 118 36, σ2)
def f_X10_without (σ : St) (a1 : Int) : Option (Int × St) :=
if (f_X10_isUnit σ a1) = 0 then
  bd2 (f_X10_bad σ (-2)) fun v3 σ4 =>
  some (v3, σ4)
else
  bd2 (f_X10_chainsNow σ) fun v5 σ6 =>
  if v5 = 0 then
    bd2 (f_X10_no σ6) fun v9 σ10 =>
    some (v9, σ10)
  else
    wrF σ6 118 27 a1 fun σ11 =>
    bd2 (f_X10_chains σ11 (σ11 118 5)) fun v12 σ13 =>
    wrF σ13 118 27 (-1) fun σ15 =>
    if v12 = 0 then
      bd2 (f_X10_no σ15) fun v17 σ18 =>
      some (v17, σ18)
    else
      some (σ15 118 34, σ15)
def jn_X10_about_142 (kb : St → Int → Int → Int → Int → Int → Option (Int × St)) (σ : St) (x1 : Int) (x3 : Int) (x4 : Int) (x5 : Int) (x6 : Int) (x7 : Int) (t0 : Int) (t1 : Int) : Option (Int × St) :=
  bnd (t1 + t0) fun v23 =>
  bnd (x4 + x7) fun v24 =>
  bnd (if wI x5 < wI x7 then x7 else x5) fun v26 =>
  kb σ v23 x3 v24 v26 (x6 + 1)
def jn_X10_about_106 (kb : St → Int → Int → Int → Int → Int → Option (Int × St)) (σ : St) (x1 : Int) (x2 : Int) (x3 : Int) (x4 : Int) (x5 : Int) (x6 : Int) (t0 : Int) : Option (Int × St) :=
  if 0 < wI x6 then
    rdA 8 σ 141 (x6 - 1) fun v19 =>
    bd1 (f_X10_nextOf σ v19) fun v20 =>
    rdA 8 σ 141 x6 fun v21 =>
    jn_X10_about_142 (kb) σ x1 x3 x4 x5 x6 t0 (if wI v20 = wI v21 then 1 else 0) x2
  else
    jn_X10_about_142 (kb) σ x1 x3 x4 x5 x6 t0 0 x2
def lp_X10_about_48 (x1 : Int) (kx : St → Int → Int → Int → Int → Option (Int × St)) : Nat → St → Int → Int → Int → Int → Int → Option (Int × St)
  | 0, _, _, _, _, _, _ => none
  | n + 1, σ, x2, x3, x4, x5, x6 =>
    if wI x6 < wI (σ 118 3) then
      rdA 8 σ 141 x6 fun v14 =>
      bd1 (f_X10_fitAs σ (σ 118 5) v14 x6) fun v15 =>
      bnd (x3 + v15) fun v16 =>
      if wI x6 = 0 then
        jn_X10_about_106 (lp_X10_about_48 x1 kx n) σ x1 x2 v16 x4 x5 x6 0
      else
        rdA 8 σ 141 (x6 - 1) fun v29 =>
        rdA 8 σ 141 x6 fun v30 =>
        bd1 (f_X10_jointOf σ v29 v30) fun v31 =>
        jn_X10_about_106 (lp_X10_about_48 x1 kx n) σ x1 x2 v16 x4 x5 x6 v31
    else
      kx σ x2 x3 x4 x5
def f_X10_about (σ : St) (a1 : Int) : Option (Int × St) :=
if (f_X10_in (i2lI a1) 0 3) = 0 then
  bd2 (f_X10_bad σ (-2)) fun v3 σ4 =>
  some (v3, σ4)
else
  bd2 (f_X10_chainsNow σ) fun v5 σ6 =>
  if v5 = 0 then
    bd2 (f_X10_no σ6) fun v9 σ10 =>
    some (v9, σ10)
  else
    bd2 (f_X10_layChain σ6) fun v11 σ12 =>
    lp_X10_about_48 a1 (fun σ32 y33 y34 y35 y36 =>
        some ((if wI a1 = 0 then y33 else (if wI a1 = 1 then y34 else (if wI a1 = 2 then y35 else y36))), σ32)) 200 σ12 0 0 0 0 0
def lp_X10_cheapest_36 (x1 : Int) (kx : St → Int → Int → Option (Int × St)) : Nat → St → Int → Int → Int → Option (Int × St)
  | 0, _, _, _, _ => none
  | n + 1, σ, x2, x3, x4 =>
    if wI x4 < 5 then
      bd2 (f_X10_chains σ x4) fun v12 σ13 =>
      bnd (if wI x3 = (-1) then 1 else (if wI (σ13 118 34) < wI x3 then 1 else 0)) fun v16 =>
      bnd (if v16 = 0 then x2 else x4) fun v18 =>
      bnd (if v16 = 0 then x3 else σ13 118 34) fun v20 =>
      lp_X10_cheapest_36 x1 kx n σ13 v18 v20 (x4 + 1)
    else
      kx σ x2 x3
def f_X10_cheapest (σ : St) (a1 : Int) : Option (Int × St) :=
if (f_X10_in (i2lI a1) 0 1) = 0 then
  bd2 (f_X10_bad σ (-2)) fun v3 σ4 =>
  some (v3, σ4)
else
  bd2 (f_X10_chainsNow σ) fun v5 σ6 =>
  if v5 = 0 then
    bd2 (f_X10_no σ6) fun v9 σ10 =>
    some (v9, σ10)
  else
    lp_X10_cheapest_36 a1 (fun σ25 y26 y27 =>
        some ((if wI a1 = 0 then y26 else y27), σ25)) 200 σ6 0 (-1) 0
def f_X10_toldOf (σ0 : St) (a1 : Int) : Option Int :=
if wI a1 = 3 then
  some (σ0 118 14)
else
  if wI a1 = 4 then
    some (σ0 118 1)
  else
    if wI a1 = 5 then
      some (σ0 118 3)
    else
      if wI a1 = 6 then
        some (σ0 118 5)
      else
        rdA 3 σ0 126 a1 fun v5 =>
        some v5
def f_X10_told (σ : St) (a1 : Int) : Option (Int × St) :=
if (f_X10_in (i2lI a1) 0 6) = 0 then
  bd2 (f_X10_bad σ (-2)) fun v3 σ4 =>
  some (v3, σ4)
else
  bd1 (f_X10_toldOf σ a1) fun v5 =>
  some (v5, σ)
def lp_X10_sums_6 (σ0 : St) (x2 : Int) (x3 : Int) (kx : Int → Option Int) : Nat → Int → Int → Option Int
  | 0, _, _ => none
  | n + 1, x4, x6 =>
    if wI x6 < wI x3 then
      rdA (uvLn x2) σ0 x2 x6 fun v2 =>
      bnd ((31 * x4) + (i2lI v2)) fun v3 =>
      lp_X10_sums_6 σ0 x2 x3 kx n v3 (x6 + 1)
    else
      kx x4
def f_X10_sums (σ0 : St) (a0 : Int) (a2 : Int) (a3 : Int) : Option Int :=
lp_X10_sums_6 σ0 a2 a3 (fun y4 =>
    some y4) 200 a0 0
def lp_X10_digest_6 (kx : St → Int → Option (Int × St)) : Nat → St → Int → Int → Option (Int × St)
  | 0, _, _, _ => none
  | n + 1, σ, x1, x3 =>
    if wI x3 < 7 then
      bd1 (f_X10_toldOf σ x3) fun v2 =>
      bnd ((31 * x1) + (i2lI v2)) fun v3 =>
      lp_X10_digest_6 kx n σ v3 (x3 + 1)
    else
      kx σ x1
def f_X10_digest (σ : St)  : Option (Int × St) :=
lp_X10_digest_6 (fun σ4 y5 =>
    bd1 (f_X10_sums σ4 y5 119 (6 * (σ4 118 1))) fun v6 =>
    bd1 (f_X10_sums σ4 v6 121 6) fun v7 =>
    bd1 (f_X10_sums σ4 v7 120 (3 * (σ4 118 3))) fun v8 =>
    bnd ((31 * ((31 * v8) + (i2lI (σ4 118 10)))) + (i2lI (σ4 118 11))) fun v9 =>
    bd2 (f_X10_chainsNow σ4) fun v10 σ11 =>
    if v10 = 0 then
      some ((31 * v9) - 1, σ11)
    else
      bd2 (f_X10_layChain σ11) fun v14 σ15 =>
      bd1 (f_X10_sums σ15 ((31 * v9) + (i2lI (σ11 118 34))) 141 (σ15 118 3)) fun v16 =>
      some (v16, σ15)) 200 σ 1987 0
end
