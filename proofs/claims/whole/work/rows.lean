section
-- ===== PART A: goes FIRST, ahead of the names: the tables' words, and 'selects' of the private methods out of them =====
/-- a private method of a class that the tables say can be made, by its rows of tables_1 -/
def lw_okq (q : MethodName × Nat) : Prop := (q.1.cls ≠ "java/lang/invoke/MethodHandle" ∧ q.1.cls ≠ "java/lang/invoke/VarHandle") ∧ Cond.instantiable q.1.cls q.2 ∈ tables_1 ∧ Cond.privateMethod q.1 ∈ tables_1 ∧ Cond.instanceMethod q.1 ∈ tables_1
theorem lw_p0 : lw_okq (⟨"QualifierGate$Rules", "fits", "(LQualifierGate$Place;LQualifierGate$Place;)Z"⟩, 1) := ⟨⟨by decide +kernel, by decide +kernel⟩, List.mem_of_getElem? (i := 122) (by decide +kernel), List.mem_of_getElem? (i := 487) (by decide +kernel), List.mem_of_getElem? (i := 488) (by decide +kernel)⟩
theorem lw_p1 : lw_okq (⟨"QualifierGate$Look", "begin", "(LQualifierGate$Frame;)V"⟩, 7) := ⟨⟨by decide +kernel, by decide +kernel⟩, List.mem_of_getElem? (i := 82) (by decide +kernel), List.mem_of_getElem? (i := 495) (by decide +kernel), List.mem_of_getElem? (i := 496) (by decide +kernel)⟩
theorem lw_p2 : lw_okq (⟨"QualifierGate$Look", "settle", "()V"⟩, 7) := ⟨⟨by decide +kernel, by decide +kernel⟩, List.mem_of_getElem? (i := 82) (by decide +kernel), List.mem_of_getElem? (i := 510) (by decide +kernel), List.mem_of_getElem? (i := 511) (by decide +kernel)⟩
theorem lw_p3 : lw_okq (⟨"QualifierGate$Look", "leave", "(I)V"⟩, 7) := ⟨⟨by decide +kernel, by decide +kernel⟩, List.mem_of_getElem? (i := 82) (by decide +kernel), List.mem_of_getElem? (i := 514) (by decide +kernel), List.mem_of_getElem? (i := 515) (by decide +kernel)⟩
theorem lw_p4 : lw_okq (⟨"QualifierGate$Look", "applyToValues", "(III)V"⟩, 7) := ⟨⟨by decide +kernel, by decide +kernel⟩, List.mem_of_getElem? (i := 82) (by decide +kernel), List.mem_of_getElem? (i := 543) (by decide +kernel), List.mem_of_getElem? (i := 544) (by decide +kernel)⟩
theorem lw_p5 : lw_okq (⟨"QualifierGate$Look", "applyToStock", "(II)V"⟩, 7) := ⟨⟨by decide +kernel, by decide +kernel⟩, List.mem_of_getElem? (i := 82) (by decide +kernel), List.mem_of_getElem? (i := 588) (by decide +kernel), List.mem_of_getElem? (i := 589) (by decide +kernel)⟩
theorem lw_p6 : lw_okq (⟨"QualifierGate$Look", "get", "(I)V"⟩, 7) := ⟨⟨by decide +kernel, by decide +kernel⟩, List.mem_of_getElem? (i := 82) (by decide +kernel), List.mem_of_getElem? (i := 592) (by decide +kernel), List.mem_of_getElem? (i := 593) (by decide +kernel)⟩
theorem lw_p7 : lw_okq (⟨"QualifierGate$Look", "put", "(I)V"⟩, 7) := ⟨⟨by decide +kernel, by decide +kernel⟩, List.mem_of_getElem? (i := 82) (by decide +kernel), List.mem_of_getElem? (i := 596) (by decide +kernel), List.mem_of_getElem? (i := 597) (by decide +kernel)⟩
theorem lw_p8 : lw_okq (⟨"QualifierGate$Look", "call", "(LQualifierGate$Method;)V"⟩, 7) := ⟨⟨by decide +kernel, by decide +kernel⟩, List.mem_of_getElem? (i := 82) (by decide +kernel), List.mem_of_getElem? (i := 600) (by decide +kernel), List.mem_of_getElem? (i := 601) (by decide +kernel)⟩
theorem lw_p9 : lw_okq (⟨"QualifierGate$Look", "isNull", "()V"⟩, 7) := ⟨⟨by decide +kernel, by decide +kernel⟩, List.mem_of_getElem? (i := 82) (by decide +kernel), List.mem_of_getElem? (i := 609) (by decide +kernel), List.mem_of_getElem? (i := 610) (by decide +kernel)⟩
theorem lw_p10 : lw_okq (⟨"QualifierGate$Look", "arrive", "(ILQualifierGate$Frame;)V"⟩, 7) := ⟨⟨by decide +kernel, by decide +kernel⟩, List.mem_of_getElem? (i := 82) (by decide +kernel), List.mem_of_getElem? (i := 621) (by decide +kernel), List.mem_of_getElem? (i := 622) (by decide +kernel)⟩
theorem lw_p11 : lw_okq (⟨"QualifierGate$Look", "beginCatch", "(Z)V"⟩, 7) := ⟨⟨by decide +kernel, by decide +kernel⟩, List.mem_of_getElem? (i := 82) (by decide +kernel), List.mem_of_getElem? (i := 655) (by decide +kernel), List.mem_of_getElem? (i := 656) (by decide +kernel)⟩
theorem lw_p12 : lw_okq (⟨"QualifierGate$Rules", "leadsAway", "(LQualifierGate$Method;I)Z"⟩, 1) := ⟨⟨by decide +kernel, by decide +kernel⟩, List.mem_of_getElem? (i := 122) (by decide +kernel), List.mem_of_getElem? (i := 663) (by decide +kernel), List.mem_of_getElem? (i := 664) (by decide +kernel)⟩
theorem lw_p13 : lw_okq (⟨"QualifierGate$Rules", "builtError", "(II)I"⟩, 1) := ⟨⟨by decide +kernel, by decide +kernel⟩, List.mem_of_getElem? (i := 122) (by decide +kernel), List.mem_of_getElem? (i := 687) (by decide +kernel), List.mem_of_getElem? (i := 688) (by decide +kernel)⟩
theorem lw_p14 : lw_okq (⟨"QualifierGate$Rules", "holderError", "(II)I"⟩, 1) := ⟨⟨by decide +kernel, by decide +kernel⟩, List.mem_of_getElem? (i := 122) (by decide +kernel), List.mem_of_getElem? (i := 692) (by decide +kernel), List.mem_of_getElem? (i := 693) (by decide +kernel)⟩
theorem lw_p15 : lw_okq (⟨"QualifierGate$Rules", "isReference", "(II)Z"⟩, 1) := ⟨⟨by decide +kernel, by decide +kernel⟩, List.mem_of_getElem? (i := 122) (by decide +kernel), List.mem_of_getElem? (i := 696) (by decide +kernel), List.mem_of_getElem? (i := 697) (by decide +kernel)⟩
def lw_privs_1 : List (MethodName × Nat) := [(⟨"QualifierGate$Rules", "fits", "(LQualifierGate$Place;LQualifierGate$Place;)Z"⟩, 1), (⟨"QualifierGate$Look", "begin", "(LQualifierGate$Frame;)V"⟩, 7), (⟨"QualifierGate$Look", "settle", "()V"⟩, 7), (⟨"QualifierGate$Look", "leave", "(I)V"⟩, 7), (⟨"QualifierGate$Look", "applyToValues", "(III)V"⟩, 7), (⟨"QualifierGate$Look", "applyToStock", "(II)V"⟩, 7), (⟨"QualifierGate$Look", "get", "(I)V"⟩, 7), (⟨"QualifierGate$Look", "put", "(I)V"⟩, 7), (⟨"QualifierGate$Look", "call", "(LQualifierGate$Method;)V"⟩, 7), (⟨"QualifierGate$Look", "isNull", "()V"⟩, 7), (⟨"QualifierGate$Look", "arrive", "(ILQualifierGate$Frame;)V"⟩, 7), (⟨"QualifierGate$Look", "beginCatch", "(Z)V"⟩, 7), (⟨"QualifierGate$Rules", "leadsAway", "(LQualifierGate$Method;I)Z"⟩, 1), (⟨"QualifierGate$Rules", "builtError", "(II)I"⟩, 1), (⟨"QualifierGate$Rules", "holderError", "(II)I"⟩, 1), (⟨"QualifierGate$Rules", "isReference", "(II)Z"⟩, 1)]
theorem lw_r1 : ∀ q ∈ lw_privs_1, lw_okq q := List.forall_mem_cons.mpr ⟨lw_p0, List.forall_mem_cons.mpr ⟨lw_p1, List.forall_mem_cons.mpr ⟨lw_p2, List.forall_mem_cons.mpr ⟨lw_p3, List.forall_mem_cons.mpr ⟨lw_p4, List.forall_mem_cons.mpr ⟨lw_p5, List.forall_mem_cons.mpr ⟨lw_p6, List.forall_mem_cons.mpr ⟨lw_p7, List.forall_mem_cons.mpr ⟨lw_p8, List.forall_mem_cons.mpr ⟨lw_p9, List.forall_mem_cons.mpr ⟨lw_p10, List.forall_mem_cons.mpr ⟨lw_p11, List.forall_mem_cons.mpr ⟨lw_p12, List.forall_mem_cons.mpr ⟨lw_p13, List.forall_mem_cons.mpr ⟨lw_p14, List.forall_mem_cons.mpr ⟨lw_p15, fun _ h => absurd h List.not_mem_nil⟩⟩⟩⟩⟩⟩⟩⟩⟩⟩⟩⟩⟩⟩⟩⟩
theorem lw_p16 : lw_okq (⟨"QualifierGate$Rules", "comingError", "(ILQualifierGate$Place;)I"⟩, 1) := ⟨⟨by decide +kernel, by decide +kernel⟩, List.mem_of_getElem? (i := 122) (by decide +kernel), List.mem_of_getElem? (i := 701) (by decide +kernel), List.mem_of_getElem? (i := 702) (by decide +kernel)⟩
theorem lw_p17 : lw_okq (⟨"QualifierGate$Rules", "referenceError", "(IIZI)I"⟩, 1) := ⟨⟨by decide +kernel, by decide +kernel⟩, List.mem_of_getElem? (i := 122) (by decide +kernel), List.mem_of_getElem? (i := 705) (by decide +kernel), List.mem_of_getElem? (i := 706) (by decide +kernel)⟩
theorem lw_p18 : lw_okq (⟨"QualifierGate$Rules", "callError", "(LQualifierGate$Method;LQualifierGate$Frame;)I"⟩, 1) := ⟨⟨by decide +kernel, by decide +kernel⟩, List.mem_of_getElem? (i := 122) (by decide +kernel), List.mem_of_getElem? (i := 710) (by decide +kernel), List.mem_of_getElem? (i := 711) (by decide +kernel)⟩
theorem lw_p19 : lw_okq (⟨"QualifierGate", "placeOf", "(II)I"⟩, 4) := ⟨⟨by decide +kernel, by decide +kernel⟩, List.mem_of_getElem? (i := 16) (by decide +kernel), List.mem_of_getElem? (i := 714) (by decide +kernel), List.mem_of_getElem? (i := 715) (by decide +kernel)⟩
theorem lw_p20 : lw_okq (⟨"QualifierGate$Rules", "fitsWithMarks", "(LQualifierGate$Place;LQualifierGate$Place;)Z"⟩, 1) := ⟨⟨by decide +kernel, by decide +kernel⟩, List.mem_of_getElem? (i := 122) (by decide +kernel), List.mem_of_getElem? (i := 735) (by decide +kernel), List.mem_of_getElem? (i := 736) (by decide +kernel)⟩
theorem lw_p21 : lw_okq (⟨"QualifierGate$Machine", "enter", "(LQualifierGate$Method;)LQualifierGate$Activation;"⟩, 15) := ⟨⟨by decide +kernel, by decide +kernel⟩, List.mem_of_getElem? (i := 155) (by decide +kernel), List.mem_of_getElem? (i := 780) (by decide +kernel), List.mem_of_getElem? (i := 781) (by decide +kernel)⟩
theorem lw_p22 : lw_okq (⟨"QualifierGate$Machine", "perform", "(LQualifierGate$Activation;)V"⟩, 15) := ⟨⟨by decide +kernel, by decide +kernel⟩, List.mem_of_getElem? (i := 155) (by decide +kernel), List.mem_of_getElem? (i := 791) (by decide +kernel), List.mem_of_getElem? (i := 792) (by decide +kernel)⟩
theorem lw_p23 : lw_okq (⟨"QualifierGate$Machine", "performOnObjects", "(LQualifierGate$Activation;I)V"⟩, 15) := ⟨⟨by decide +kernel, by decide +kernel⟩, List.mem_of_getElem? (i := 155) (by decide +kernel), List.mem_of_getElem? (i := 807) (by decide +kernel), List.mem_of_getElem? (i := 808) (by decide +kernel)⟩
theorem lw_p24 : lw_okq (⟨"QualifierGate$Machine", "makeObject", "(LQualifierGate$Activation;I)V"⟩, 15) := ⟨⟨by decide +kernel, by decide +kernel⟩, List.mem_of_getElem? (i := 155) (by decide +kernel), List.mem_of_getElem? (i := 811) (by decide +kernel), List.mem_of_getElem? (i := 812) (by decide +kernel)⟩
theorem lw_p25 : lw_okq (⟨"QualifierGate$Machine", "get", "(LQualifierGate$Activation;I)V"⟩, 15) := ⟨⟨by decide +kernel, by decide +kernel⟩, List.mem_of_getElem? (i := 155) (by decide +kernel), List.mem_of_getElem? (i := 815) (by decide +kernel), List.mem_of_getElem? (i := 816) (by decide +kernel)⟩
theorem lw_p26 : lw_okq (⟨"QualifierGate$Machine", "isObject", "(I)Z"⟩, 15) := ⟨⟨by decide +kernel, by decide +kernel⟩, List.mem_of_getElem? (i := 155) (by decide +kernel), List.mem_of_getElem? (i := 819) (by decide +kernel), List.mem_of_getElem? (i := 820) (by decide +kernel)⟩
theorem lw_p27 : lw_okq (⟨"QualifierGate$Machine", "put", "(LQualifierGate$Activation;I)V"⟩, 15) := ⟨⟨by decide +kernel, by decide +kernel⟩, List.mem_of_getElem? (i := 155) (by decide +kernel), List.mem_of_getElem? (i := 823) (by decide +kernel), List.mem_of_getElem? (i := 824) (by decide +kernel)⟩
theorem lw_p28 : lw_okq (⟨"QualifierGate$Machine", "call", "(LQualifierGate$Activation;LQualifierGate$Method;)V"⟩, 15) := ⟨⟨by decide +kernel, by decide +kernel⟩, List.mem_of_getElem? (i := 155) (by decide +kernel), List.mem_of_getElem? (i := 827) (by decide +kernel), List.mem_of_getElem? (i := 828) (by decide +kernel)⟩
theorem lw_p29 : lw_okq (⟨"QualifierGate$Machine", "callBuiltIn", "(LQualifierGate$Activation;LQualifierGate$Method;I)V"⟩, 15) := ⟨⟨by decide +kernel, by decide +kernel⟩, List.mem_of_getElem? (i := 155) (by decide +kernel), List.mem_of_getElem? (i := 835) (by decide +kernel), List.mem_of_getElem? (i := 836) (by decide +kernel)⟩
theorem lw_p30 : lw_okq (⟨"QualifierGate$Machine", "cast", "(LQualifierGate$Activation;I)V"⟩, 15) := ⟨⟨by decide +kernel, by decide +kernel⟩, List.mem_of_getElem? (i := 155) (by decide +kernel), List.mem_of_getElem? (i := 841) (by decide +kernel), List.mem_of_getElem? (i := 842) (by decide +kernel)⟩
theorem lw_p31 : lw_okq (⟨"QualifierGate$Machine", "raise", "(I)V"⟩, 15) := ⟨⟨by decide +kernel, by decide +kernel⟩, List.mem_of_getElem? (i := 155) (by decide +kernel), List.mem_of_getElem? (i := 846) (by decide +kernel), List.mem_of_getElem? (i := 847) (by decide +kernel)⟩
def lw_privs_2 : List (MethodName × Nat) := [(⟨"QualifierGate$Rules", "comingError", "(ILQualifierGate$Place;)I"⟩, 1), (⟨"QualifierGate$Rules", "referenceError", "(IIZI)I"⟩, 1), (⟨"QualifierGate$Rules", "callError", "(LQualifierGate$Method;LQualifierGate$Frame;)I"⟩, 1), (⟨"QualifierGate", "placeOf", "(II)I"⟩, 4), (⟨"QualifierGate$Rules", "fitsWithMarks", "(LQualifierGate$Place;LQualifierGate$Place;)Z"⟩, 1), (⟨"QualifierGate$Machine", "enter", "(LQualifierGate$Method;)LQualifierGate$Activation;"⟩, 15), (⟨"QualifierGate$Machine", "perform", "(LQualifierGate$Activation;)V"⟩, 15), (⟨"QualifierGate$Machine", "performOnObjects", "(LQualifierGate$Activation;I)V"⟩, 15), (⟨"QualifierGate$Machine", "makeObject", "(LQualifierGate$Activation;I)V"⟩, 15), (⟨"QualifierGate$Machine", "get", "(LQualifierGate$Activation;I)V"⟩, 15), (⟨"QualifierGate$Machine", "isObject", "(I)Z"⟩, 15), (⟨"QualifierGate$Machine", "put", "(LQualifierGate$Activation;I)V"⟩, 15), (⟨"QualifierGate$Machine", "call", "(LQualifierGate$Activation;LQualifierGate$Method;)V"⟩, 15), (⟨"QualifierGate$Machine", "callBuiltIn", "(LQualifierGate$Activation;LQualifierGate$Method;I)V"⟩, 15), (⟨"QualifierGate$Machine", "cast", "(LQualifierGate$Activation;I)V"⟩, 15), (⟨"QualifierGate$Machine", "raise", "(I)V"⟩, 15)]
theorem lw_r2 : ∀ q ∈ lw_privs_2, lw_okq q := List.forall_mem_cons.mpr ⟨lw_p16, List.forall_mem_cons.mpr ⟨lw_p17, List.forall_mem_cons.mpr ⟨lw_p18, List.forall_mem_cons.mpr ⟨lw_p19, List.forall_mem_cons.mpr ⟨lw_p20, List.forall_mem_cons.mpr ⟨lw_p21, List.forall_mem_cons.mpr ⟨lw_p22, List.forall_mem_cons.mpr ⟨lw_p23, List.forall_mem_cons.mpr ⟨lw_p24, List.forall_mem_cons.mpr ⟨lw_p25, List.forall_mem_cons.mpr ⟨lw_p26, List.forall_mem_cons.mpr ⟨lw_p27, List.forall_mem_cons.mpr ⟨lw_p28, List.forall_mem_cons.mpr ⟨lw_p29, List.forall_mem_cons.mpr ⟨lw_p30, List.forall_mem_cons.mpr ⟨lw_p31, fun _ h => absurd h List.not_mem_nil⟩⟩⟩⟩⟩⟩⟩⟩⟩⟩⟩⟩⟩⟩⟩⟩
theorem lw_p32 : lw_okq (⟨"QualifierGate$Machine", "classOf", "(I)I"⟩, 15) := ⟨⟨by decide +kernel, by decide +kernel⟩, List.mem_of_getElem? (i := 155) (by decide +kernel), List.mem_of_getElem? (i := 851) (by decide +kernel), List.mem_of_getElem? (i := 852) (by decide +kernel)⟩
theorem lw_p33 : lw_okq (⟨"QualifierGate$Machine", "give", "(LQualifierGate$Activation;)V"⟩, 15) := ⟨⟨by decide +kernel, by decide +kernel⟩, List.mem_of_getElem? (i := 155) (by decide +kernel), List.mem_of_getElem? (i := 855) (by decide +kernel), List.mem_of_getElem? (i := 856) (by decide +kernel)⟩
theorem lw_p34 : lw_okq (⟨"QualifierGateModel", "frozen", "()Z"⟩, 61) := ⟨⟨by decide +kernel, by decide +kernel⟩, List.mem_of_getElem? (i := 873) (by decide +kernel), List.mem_of_getElem? (i := 1067) (by decide +kernel), List.mem_of_getElem? (i := 1068) (by decide +kernel)⟩
theorem lw_p35 : lw_okq (⟨"QualifierGateModel", "isClass", "(I)Z"⟩, 61) := ⟨⟨by decide +kernel, by decide +kernel⟩, List.mem_of_getElem? (i := 873) (by decide +kernel), List.mem_of_getElem? (i := 1071) (by decide +kernel), List.mem_of_getElem? (i := 1072) (by decide +kernel)⟩
theorem lw_p36 : lw_okq (⟨"QualifierGateModel", "says", "(II)Z"⟩, 61) := ⟨⟨by decide +kernel, by decide +kernel⟩, List.mem_of_getElem? (i := 873) (by decide +kernel), List.mem_of_getElem? (i := 1082) (by decide +kernel), List.mem_of_getElem? (i := 1083) (by decide +kernel)⟩
theorem lw_p37 : lw_okq (⟨"QualifierGateModel", "own", "(II)I"⟩, 61) := ⟨⟨by decide +kernel, by decide +kernel⟩, List.mem_of_getElem? (i := 873) (by decide +kernel), List.mem_of_getElem? (i := 1090) (by decide +kernel), List.mem_of_getElem? (i := 1091) (by decide +kernel)⟩
theorem lw_p38 : lw_okq (⟨"QualifierGateModel", "isMethod", "(I)Z"⟩, 61) := ⟨⟨by decide +kernel, by decide +kernel⟩, List.mem_of_getElem? (i := 873) (by decide +kernel), List.mem_of_getElem? (i := 1098) (by decide +kernel), List.mem_of_getElem? (i := 1099) (by decide +kernel)⟩
theorem lw_p39 : lw_okq (⟨"QualifierGateModel", "say", "(IIZI)V"⟩, 61) := ⟨⟨by decide +kernel, by decide +kernel⟩, List.mem_of_getElem? (i := 873) (by decide +kernel), List.mem_of_getElem? (i := 1102) (by decide +kernel), List.mem_of_getElem? (i := 1103) (by decide +kernel)⟩
theorem lw_p40 : lw_okq (⟨"QualifierGateModel", "inspect", "(I)I"⟩, 61) := ⟨⟨by decide +kernel, by decide +kernel⟩, List.mem_of_getElem? (i := 873) (by decide +kernel), List.mem_of_getElem? (i := 1130) (by decide +kernel), List.mem_of_getElem? (i := 1131) (by decide +kernel)⟩
theorem lw_p41 : lw_okq (⟨"QualifierGateModel", "look", "(I)V"⟩, 61) := ⟨⟨by decide +kernel, by decide +kernel⟩, List.mem_of_getElem? (i := 873) (by decide +kernel), List.mem_of_getElem? (i := 1134) (by decide +kernel), List.mem_of_getElem? (i := 1135) (by decide +kernel)⟩
theorem lw_p42 : lw_okq (⟨"QualifierGateModel", "start", "(I)V"⟩, 61) := ⟨⟨by decide +kernel, by decide +kernel⟩, List.mem_of_getElem? (i := 873) (by decide +kernel), List.mem_of_getElem? (i := 1138) (by decide +kernel), List.mem_of_getElem? (i := 1139) (by decide +kernel)⟩
theorem lw_p43 : lw_okq (⟨"QualifierGateModel", "set", "(IIIZI)V"⟩, 61) := ⟨⟨by decide +kernel, by decide +kernel⟩, List.mem_of_getElem? (i := 873) (by decide +kernel), List.mem_of_getElem? (i := 1142) (by decide +kernel), List.mem_of_getElem? (i := 1143) (by decide +kernel)⟩
theorem lw_p44 : lw_okq (⟨"QualifierGateModel", "come", "(IZ)V"⟩, 61) := ⟨⟨by decide +kernel, by decide +kernel⟩, List.mem_of_getElem? (i := 873) (by decide +kernel), List.mem_of_getElem? (i := 1146) (by decide +kernel), List.mem_of_getElem? (i := 1147) (by decide +kernel)⟩
theorem lw_p45 : lw_okq (⟨"QualifierGateModel", "keep", "(II)V"⟩, 61) := ⟨⟨by decide +kernel, by decide +kernel⟩, List.mem_of_getElem? (i := 873) (by decide +kernel), List.mem_of_getElem? (i := 1150) (by decide +kernel), List.mem_of_getElem? (i := 1151) (by decide +kernel)⟩
theorem lw_p46 : lw_okq (⟨"QualifierGateModel", "join", "(IIZ)V"⟩, 61) := ⟨⟨by decide +kernel, by decide +kernel⟩, List.mem_of_getElem? (i := 873) (by decide +kernel), List.mem_of_getElem? (i := 1154) (by decide +kernel), List.mem_of_getElem? (i := 1155) (by decide +kernel)⟩
theorem lw_p47 : lw_okq (⟨"QualifierGateModel", "isBelow", "(II)Z"⟩, 61) := ⟨⟨by decide +kernel, by decide +kernel⟩, List.mem_of_getElem? (i := 873) (by decide +kernel), List.mem_of_getElem? (i := 1158) (by decide +kernel), List.mem_of_getElem? (i := 1159) (by decide +kernel)⟩
def lw_privs_3 : List (MethodName × Nat) := [(⟨"QualifierGate$Machine", "classOf", "(I)I"⟩, 15), (⟨"QualifierGate$Machine", "give", "(LQualifierGate$Activation;)V"⟩, 15), (⟨"QualifierGateModel", "frozen", "()Z"⟩, 61), (⟨"QualifierGateModel", "isClass", "(I)Z"⟩, 61), (⟨"QualifierGateModel", "says", "(II)Z"⟩, 61), (⟨"QualifierGateModel", "own", "(II)I"⟩, 61), (⟨"QualifierGateModel", "isMethod", "(I)Z"⟩, 61), (⟨"QualifierGateModel", "say", "(IIZI)V"⟩, 61), (⟨"QualifierGateModel", "inspect", "(I)I"⟩, 61), (⟨"QualifierGateModel", "look", "(I)V"⟩, 61), (⟨"QualifierGateModel", "start", "(I)V"⟩, 61), (⟨"QualifierGateModel", "set", "(IIIZI)V"⟩, 61), (⟨"QualifierGateModel", "come", "(IZ)V"⟩, 61), (⟨"QualifierGateModel", "keep", "(II)V"⟩, 61), (⟨"QualifierGateModel", "join", "(IIZ)V"⟩, 61), (⟨"QualifierGateModel", "isBelow", "(II)Z"⟩, 61)]
theorem lw_r3 : ∀ q ∈ lw_privs_3, lw_okq q := List.forall_mem_cons.mpr ⟨lw_p32, List.forall_mem_cons.mpr ⟨lw_p33, List.forall_mem_cons.mpr ⟨lw_p34, List.forall_mem_cons.mpr ⟨lw_p35, List.forall_mem_cons.mpr ⟨lw_p36, List.forall_mem_cons.mpr ⟨lw_p37, List.forall_mem_cons.mpr ⟨lw_p38, List.forall_mem_cons.mpr ⟨lw_p39, List.forall_mem_cons.mpr ⟨lw_p40, List.forall_mem_cons.mpr ⟨lw_p41, List.forall_mem_cons.mpr ⟨lw_p42, List.forall_mem_cons.mpr ⟨lw_p43, List.forall_mem_cons.mpr ⟨lw_p44, List.forall_mem_cons.mpr ⟨lw_p45, List.forall_mem_cons.mpr ⟨lw_p46, List.forall_mem_cons.mpr ⟨lw_p47, fun _ h => absurd h List.not_mem_nil⟩⟩⟩⟩⟩⟩⟩⟩⟩⟩⟩⟩⟩⟩⟩⟩
theorem lw_p48 : lw_okq (⟨"QualifierGateModel", "flow", "(II)V"⟩, 61) := ⟨⟨by decide +kernel, by decide +kernel⟩, List.mem_of_getElem? (i := 873) (by decide +kernel), List.mem_of_getElem? (i := 1162) (by decide +kernel), List.mem_of_getElem? (i := 1163) (by decide +kernel)⟩
theorem lw_p49 : lw_okq (⟨"QualifierGateModel", "isShort", "(II)Z"⟩, 61) := ⟨⟨by decide +kernel, by decide +kernel⟩, List.mem_of_getElem? (i := 873) (by decide +kernel), List.mem_of_getElem? (i := 1166) (by decide +kernel), List.mem_of_getElem? (i := 1167) (by decide +kernel)⟩
theorem lw_p50 : lw_okq (⟨"QualifierGateModel", "pops", "(III)I"⟩, 61) := ⟨⟨by decide +kernel, by decide +kernel⟩, List.mem_of_getElem? (i := 873) (by decide +kernel), List.mem_of_getElem? (i := 1170) (by decide +kernel), List.mem_of_getElem? (i := 1171) (by decide +kernel)⟩
theorem lw_p51 : lw_okq (⟨"QualifierGateModel", "pushes", "(II)I"⟩, 61) := ⟨⟨by decide +kernel, by decide +kernel⟩, List.mem_of_getElem? (i := 873) (by decide +kernel), List.mem_of_getElem? (i := 1174) (by decide +kernel), List.mem_of_getElem? (i := 1175) (by decide +kernel)⟩
theorem lw_p52 : lw_okq (⟨"QualifierGateModel", "wayOf", "(III)I"⟩, 61) := ⟨⟨by decide +kernel, by decide +kernel⟩, List.mem_of_getElem? (i := 873) (by decide +kernel), List.mem_of_getElem? (i := 1178) (by decide +kernel), List.mem_of_getElem? (i := 1179) (by decide +kernel)⟩
theorem lw_p53 : lw_okq (⟨"QualifierGateModel", "guardOf", "(II)I"⟩, 61) := ⟨⟨by decide +kernel, by decide +kernel⟩, List.mem_of_getElem? (i := 873) (by decide +kernel), List.mem_of_getElem? (i := 1182) (by decide +kernel), List.mem_of_getElem? (i := 1183) (by decide +kernel)⟩
theorem lw_p54 : lw_okq (⟨"QualifierGateModel", "take", "(I)V"⟩, 61) := ⟨⟨by decide +kernel, by decide +kernel⟩, List.mem_of_getElem? (i := 873) (by decide +kernel), List.mem_of_getElem? (i := 1186) (by decide +kernel), List.mem_of_getElem? (i := 1187) (by decide +kernel)⟩
theorem lw_p55 : lw_okq (⟨"QualifierGateModel", "push", "(IIZI)V"⟩, 61) := ⟨⟨by decide +kernel, by decide +kernel⟩, List.mem_of_getElem? (i := 873) (by decide +kernel), List.mem_of_getElem? (i := 1190) (by decide +kernel), List.mem_of_getElem? (i := 1191) (by decide +kernel)⟩
theorem lw_p56 : lw_okq (⟨"QualifierGateModel", "effect", "(II)V"⟩, 61) := ⟨⟨by decide +kernel, by decide +kernel⟩, List.mem_of_getElem? (i := 873) (by decide +kernel), List.mem_of_getElem? (i := 1194) (by decide +kernel), List.mem_of_getElem? (i := 1195) (by decide +kernel)⟩
theorem lw_p57 : lw_okq (⟨"QualifierGateModel", "settle", "(I)V"⟩, 61) := ⟨⟨by decide +kernel, by decide +kernel⟩, List.mem_of_getElem? (i := 873) (by decide +kernel), List.mem_of_getElem? (i := 1198) (by decide +kernel), List.mem_of_getElem? (i := 1199) (by decide +kernel)⟩
theorem lw_p58 : lw_okq (⟨"QualifierGateModel", "pushSaid", "(IZI)V"⟩, 61) := ⟨⟨by decide +kernel, by decide +kernel⟩, List.mem_of_getElem? (i := 873) (by decide +kernel), List.mem_of_getElem? (i := 1202) (by decide +kernel), List.mem_of_getElem? (i := 1203) (by decide +kernel)⟩
theorem lw_p59 : lw_okq (⟨"QualifierGateModel", "isOutside", "(I)Z"⟩, 61) := ⟨⟨by decide +kernel, by decide +kernel⟩, List.mem_of_getElem? (i := 873) (by decide +kernel), List.mem_of_getElem? (i := 1206) (by decide +kernel), List.mem_of_getElem? (i := 1207) (by decide +kernel)⟩
theorem lw_p60 : lw_okq (⟨"QualifierGateModel", "errorAt", "(II)I"⟩, 61) := ⟨⟨by decide +kernel, by decide +kernel⟩, List.mem_of_getElem? (i := 873) (by decide +kernel), List.mem_of_getElem? (i := 1210) (by decide +kernel), List.mem_of_getElem? (i := 1211) (by decide +kernel)⟩
theorem lw_p61 : lw_okq (⟨"QualifierGateModel", "wrongFor", "(IIZI)I"⟩, 61) := ⟨⟨by decide +kernel, by decide +kernel⟩, List.mem_of_getElem? (i := 873) (by decide +kernel), List.mem_of_getElem? (i := 1214) (by decide +kernel), List.mem_of_getElem? (i := 1215) (by decide +kernel)⟩
theorem lw_p62 : lw_okq (⟨"QualifierGateModel", "isRef", "(II)Z"⟩, 61) := ⟨⟨by decide +kernel, by decide +kernel⟩, List.mem_of_getElem? (i := 873) (by decide +kernel), List.mem_of_getElem? (i := 1218) (by decide +kernel), List.mem_of_getElem? (i := 1219) (by decide +kernel)⟩
theorem lw_p63 : lw_okq (⟨"QualifierGateModel", "lacks", "(I)Z"⟩, 61) := ⟨⟨by decide +kernel, by decide +kernel⟩, List.mem_of_getElem? (i := 873) (by decide +kernel), List.mem_of_getElem? (i := 1225) (by decide +kernel), List.mem_of_getElem? (i := 1226) (by decide +kernel)⟩
def lw_privs_4 : List (MethodName × Nat) := [(⟨"QualifierGateModel", "flow", "(II)V"⟩, 61), (⟨"QualifierGateModel", "isShort", "(II)Z"⟩, 61), (⟨"QualifierGateModel", "pops", "(III)I"⟩, 61), (⟨"QualifierGateModel", "pushes", "(II)I"⟩, 61), (⟨"QualifierGateModel", "wayOf", "(III)I"⟩, 61), (⟨"QualifierGateModel", "guardOf", "(II)I"⟩, 61), (⟨"QualifierGateModel", "take", "(I)V"⟩, 61), (⟨"QualifierGateModel", "push", "(IIZI)V"⟩, 61), (⟨"QualifierGateModel", "effect", "(II)V"⟩, 61), (⟨"QualifierGateModel", "settle", "(I)V"⟩, 61), (⟨"QualifierGateModel", "pushSaid", "(IZI)V"⟩, 61), (⟨"QualifierGateModel", "isOutside", "(I)Z"⟩, 61), (⟨"QualifierGateModel", "errorAt", "(II)I"⟩, 61), (⟨"QualifierGateModel", "wrongFor", "(IIZI)I"⟩, 61), (⟨"QualifierGateModel", "isRef", "(II)Z"⟩, 61), (⟨"QualifierGateModel", "lacks", "(I)Z"⟩, 61)]
theorem lw_r4 : ∀ q ∈ lw_privs_4, lw_okq q := List.forall_mem_cons.mpr ⟨lw_p48, List.forall_mem_cons.mpr ⟨lw_p49, List.forall_mem_cons.mpr ⟨lw_p50, List.forall_mem_cons.mpr ⟨lw_p51, List.forall_mem_cons.mpr ⟨lw_p52, List.forall_mem_cons.mpr ⟨lw_p53, List.forall_mem_cons.mpr ⟨lw_p54, List.forall_mem_cons.mpr ⟨lw_p55, List.forall_mem_cons.mpr ⟨lw_p56, List.forall_mem_cons.mpr ⟨lw_p57, List.forall_mem_cons.mpr ⟨lw_p58, List.forall_mem_cons.mpr ⟨lw_p59, List.forall_mem_cons.mpr ⟨lw_p60, List.forall_mem_cons.mpr ⟨lw_p61, List.forall_mem_cons.mpr ⟨lw_p62, List.forall_mem_cons.mpr ⟨lw_p63, fun _ h => absurd h List.not_mem_nil⟩⟩⟩⟩⟩⟩⟩⟩⟩⟩⟩⟩⟩⟩⟩⟩
theorem lw_p64 : lw_okq (⟨"QualifierGateModel", "wrongObject", "(IIZZZ)I"⟩, 61) := ⟨⟨by decide +kernel, by decide +kernel⟩, List.mem_of_getElem? (i := 873) (by decide +kernel), List.mem_of_getElem? (i := 1229) (by decide +kernel), List.mem_of_getElem? (i := 1230) (by decide +kernel)⟩
theorem lw_p65 : lw_okq (⟨"QualifierGateModel", "wrongCall", "(I)I"⟩, 61) := ⟨⟨by decide +kernel, by decide +kernel⟩, List.mem_of_getElem? (i := 873) (by decide +kernel), List.mem_of_getElem? (i := 1233) (by decide +kernel), List.mem_of_getElem? (i := 1234) (by decide +kernel)⟩
theorem lw_p66 : lw_okq (⟨"QualifierGateModel", "varies", "(I)Z"⟩, 61) := ⟨⟨by decide +kernel, by decide +kernel⟩, List.mem_of_getElem? (i := 873) (by decide +kernel), List.mem_of_getElem? (i := 1241) (by decide +kernel), List.mem_of_getElem? (i := 1242) (by decide +kernel)⟩
theorem lw_p67 : lw_okq (⟨"QualifierGateModel", "find", "(II)I"⟩, 61) := ⟨⟨by decide +kernel, by decide +kernel⟩, List.mem_of_getElem? (i := 873) (by decide +kernel), List.mem_of_getElem? (i := 1245) (by decide +kernel), List.mem_of_getElem? (i := 1246) (by decide +kernel)⟩
theorem lw_p68 : lw_okq (⟨"QualifierGateModel", "parts", "(II)Z"⟩, 61) := ⟨⟨by decide +kernel, by decide +kernel⟩, List.mem_of_getElem? (i := 873) (by decide +kernel), List.mem_of_getElem? (i := 1249) (by decide +kernel), List.mem_of_getElem? (i := 1250) (by decide +kernel)⟩
theorem lw_p69 : lw_okq (⟨"QualifierGateModel", "enter", "(I)V"⟩, 61) := ⟨⟨by decide +kernel, by decide +kernel⟩, List.mem_of_getElem? (i := 873) (by decide +kernel), List.mem_of_getElem? (i := 1273) (by decide +kernel), List.mem_of_getElem? (i := 1274) (by decide +kernel)⟩
theorem lw_p70 : lw_okq (⟨"QualifierGateModel", "step", "()V"⟩, 61) := ⟨⟨by decide +kernel, by decide +kernel⟩, List.mem_of_getElem? (i := 873) (by decide +kernel), List.mem_of_getElem? (i := 1277) (by decide +kernel), List.mem_of_getElem? (i := 1278) (by decide +kernel)⟩
theorem lw_p71 : lw_okq (⟨"QualifierGateModel", "pull", "()I"⟩, 61) := ⟨⟨by decide +kernel, by decide +kernel⟩, List.mem_of_getElem? (i := 873) (by decide +kernel), List.mem_of_getElem? (i := 1281) (by decide +kernel), List.mem_of_getElem? (i := 1282) (by decide +kernel)⟩
theorem lw_p72 : lw_okq (⟨"QualifierGateModel", "lay", "(I)V"⟩, 61) := ⟨⟨by decide +kernel, by decide +kernel⟩, List.mem_of_getElem? (i := 873) (by decide +kernel), List.mem_of_getElem? (i := 1285) (by decide +kernel), List.mem_of_getElem? (i := 1286) (by decide +kernel)⟩
theorem lw_p73 : lw_okq (⟨"QualifierGateModel", "make", "(I)V"⟩, 61) := ⟨⟨by decide +kernel, by decide +kernel⟩, List.mem_of_getElem? (i := 873) (by decide +kernel), List.mem_of_getElem? (i := 1289) (by decide +kernel), List.mem_of_getElem? (i := 1290) (by decide +kernel)⟩
theorem lw_p74 : lw_okq (⟨"QualifierGateModel", "call", "(I)V"⟩, 61) := ⟨⟨by decide +kernel, by decide +kernel⟩, List.mem_of_getElem? (i := 873) (by decide +kernel), List.mem_of_getElem? (i := 1293) (by decide +kernel), List.mem_of_getElem? (i := 1294) (by decide +kernel)⟩
theorem lw_p75 : lw_okq (⟨"QualifierGateModel", "outside", "(II)V"⟩, 61) := ⟨⟨by decide +kernel, by decide +kernel⟩, List.mem_of_getElem? (i := 873) (by decide +kernel), List.mem_of_getElem? (i := 1297) (by decide +kernel), List.mem_of_getElem? (i := 1298) (by decide +kernel)⟩
theorem lw_p76 : lw_okq (⟨"QualifierGateModel", "raise", "(I)V"⟩, 61) := ⟨⟨by decide +kernel, by decide +kernel⟩, List.mem_of_getElem? (i := 873) (by decide +kernel), List.mem_of_getElem? (i := 1301) (by decide +kernel), List.mem_of_getElem? (i := 1302) (by decide +kernel)⟩
theorem lw_p77 : lw_okq (⟨"QualifierGateModel", "give", "(I)V"⟩, 61) := ⟨⟨by decide +kernel, by decide +kernel⟩, List.mem_of_getElem? (i := 873) (by decide +kernel), List.mem_of_getElem? (i := 1305) (by decide +kernel), List.mem_of_getElem? (i := 1306) (by decide +kernel)⟩
def lw_privs_5 : List (MethodName × Nat) := [(⟨"QualifierGateModel", "wrongObject", "(IIZZZ)I"⟩, 61), (⟨"QualifierGateModel", "wrongCall", "(I)I"⟩, 61), (⟨"QualifierGateModel", "varies", "(I)Z"⟩, 61), (⟨"QualifierGateModel", "find", "(II)I"⟩, 61), (⟨"QualifierGateModel", "parts", "(II)Z"⟩, 61), (⟨"QualifierGateModel", "enter", "(I)V"⟩, 61), (⟨"QualifierGateModel", "step", "()V"⟩, 61), (⟨"QualifierGateModel", "pull", "()I"⟩, 61), (⟨"QualifierGateModel", "lay", "(I)V"⟩, 61), (⟨"QualifierGateModel", "make", "(I)V"⟩, 61), (⟨"QualifierGateModel", "call", "(I)V"⟩, 61), (⟨"QualifierGateModel", "outside", "(II)V"⟩, 61), (⟨"QualifierGateModel", "raise", "(I)V"⟩, 61), (⟨"QualifierGateModel", "give", "(I)V"⟩, 61)]
theorem lw_r5 : ∀ q ∈ lw_privs_5, lw_okq q := List.forall_mem_cons.mpr ⟨lw_p64, List.forall_mem_cons.mpr ⟨lw_p65, List.forall_mem_cons.mpr ⟨lw_p66, List.forall_mem_cons.mpr ⟨lw_p67, List.forall_mem_cons.mpr ⟨lw_p68, List.forall_mem_cons.mpr ⟨lw_p69, List.forall_mem_cons.mpr ⟨lw_p70, List.forall_mem_cons.mpr ⟨lw_p71, List.forall_mem_cons.mpr ⟨lw_p72, List.forall_mem_cons.mpr ⟨lw_p73, List.forall_mem_cons.mpr ⟨lw_p74, List.forall_mem_cons.mpr ⟨lw_p75, List.forall_mem_cons.mpr ⟨lw_p76, List.forall_mem_cons.mpr ⟨lw_p77, fun _ h => absurd h List.not_mem_nil⟩⟩⟩⟩⟩⟩⟩⟩⟩⟩⟩⟩⟩⟩
def lw_privs : List (MethodName × Nat) := lw_privs_1 ++ (lw_privs_2 ++ (lw_privs_3 ++ (lw_privs_4 ++ (lw_privs_5))))
def lw_tbl : List Cond := k2_sels lw_privs ++ tables_1
theorem lw_privs_ok : ∀ q ∈ lw_privs, lw_okq q := by
  show ∀ q ∈ lw_privs_1 ++ (lw_privs_2 ++ (lw_privs_3 ++ (lw_privs_4 ++ (lw_privs_5)))), lw_okq q
  exact List.forall_mem_append.mpr ⟨lw_r1, List.forall_mem_append.mpr ⟨lw_r2, List.forall_mem_append.mpr ⟨lw_r3, List.forall_mem_append.mpr ⟨lw_r4, lw_r5⟩⟩⟩⟩
end
section
/-! tables of the landed class, its reference and its law, by program (wip/whole/gen_tables.py) -/
/-- an instruction: pc, length, entry of the pool, what it is (entries resolved: a field 64 * class + place, a method's number, a class, a type of array, a static array) -/
abbrev mm_I : Type := Nat × Nat × Nat × Instr
/-- a method: name, bytes, locals, what it gives, (class, parameters, static), places of its words, code -/
abbrev mm_M : Type := MethodName × ByteArray × Nat × Option FieldType × (Nat × Nat × Bool) × (Nat × Nat × Nat × Nat) × List mm_I
def mm_T0 : u_T := fun k => match k with
  | 0 => ("QualifierGate", "stock", "LQualifierGate$Stock;", true)
  | 1 => ("QualifierGate", "look", "LQualifierGate$Look;", true)
  | 2 => ("QualifierGate", "machine", "LQualifierGate$Machine;", true)
  | _ => ("QualifierGate", "lastPlace", "I", false)
def mm_y0 : Nat → FieldType := fun k => match k with
  | 0 => .object "QualifierGate$Stock"
  | 1 => .object "QualifierGate$Look"
  | 2 => .object "QualifierGate$Machine"
  | _ => .int
def mm_T1 : u_T := fun k => match k with
  | 0 => ("QualifierGate$Stock", "classCount", "I", false)
  | 1 => ("QualifierGate$Stock", "above", "[I", true)
  | 2 => ("QualifierGate$Stock", "aboveSets", "[I", true)
  | 3 => ("QualifierGate$Stock", "loaded", "[Z", true)
  | 4 => ("QualifierGate$Stock", "frozen", "Z", false)
  | 5 => ("QualifierGate$Stock", "fieldCount", "I", false)
  | 6 => ("QualifierGate$Stock", "fieldOwners", "[I", true)
  | 7 => ("QualifierGate$Stock", "fields", "[LQualifierGate$Place;", true)
  | 8 => ("QualifierGate$Stock", "methodCount", "I", false)
  | _ => ("QualifierGate$Stock", "methods", "[LQualifierGate$Method;", true)
def mm_y1 : Nat → FieldType := fun k => match k with
  | 0 => .int
  | 1 => .array .int
  | 2 => .array .int
  | 3 => .array .boolean
  | 4 => .boolean
  | 5 => .int
  | 6 => .array .int
  | 7 => .array (.object "QualifierGate$Place")
  | 8 => .int
  | _ => .array (.object "QualifierGate$Method")
def mm_T2 : u_T := fun k => match k with
  | 0 => ("QualifierGate$Look", "stock", "LQualifierGate$Stock;", true)
  | 1 => ("QualifierGate$Look", "rules", "LQualifierGate$Rules;", true)
  | 2 => ("QualifierGate$Look", "frames", "[LQualifierGate$Frame;", true)
  | 3 => ("QualifierGate$Look", "out", "LQualifierGate$Frame;", true)
  | 4 => ("QualifierGate$Look", "jump", "LQualifierGate$Frame;", true)
  | 5 => ("QualifierGate$Look", "method", "LQualifierGate$Method;", false)
  | _ => ("QualifierGate$Look", "errorAt", "I", false)
def mm_y2 : Nat → FieldType := fun k => match k with
  | 0 => .object "QualifierGate$Stock"
  | 1 => .object "QualifierGate$Rules"
  | 2 => .array (.object "QualifierGate$Frame")
  | 3 => .object "QualifierGate$Frame"
  | 4 => .object "QualifierGate$Frame"
  | 5 => .object "QualifierGate$Method"
  | _ => .int
def mm_T3 : u_T := fun k => match k with
  | 0 => ("QualifierGate$Frame", "slots", "[I", true)
  | 1 => ("QualifierGate$Frame", "height", "I", false)
  | 2 => ("QualifierGate$Frame", "site", "I", false)
  | 3 => ("QualifierGate$Frame", "set", "I", false)
  | _ => ("QualifierGate$Frame", "fresh", "Z", false)
def mm_y3 : Nat → FieldType := fun k => match k with
  | 0 => .array .int
  | 1 => .int
  | 2 => .int
  | 3 => .int
  | _ => .boolean
def mm_T4 : u_T := fun k => match k with
  | _ => ("QualifierGate$Rules", "stock", "LQualifierGate$Stock;", true)
def mm_y4 : Nat → FieldType := fun k => match k with
  | _ => .object "QualifierGate$Stock"
def mm_T5 : u_T := fun k => match k with
  | 0 => ("QualifierGate$Machine", "stock", "LQualifierGate$Stock;", true)
  | 1 => ("QualifierGate$Machine", "inputs", "[I", true)
  | 2 => ("QualifierGate$Machine", "inputCount", "I", false)
  | 3 => ("QualifierGate$Machine", "outputs", "[I", true)
  | 4 => ("QualifierGate$Machine", "answer", "I", false)
  | 5 => ("QualifierGate$Machine", "begun", "I", false)
  | 6 => ("QualifierGate$Machine", "made", "I", false)
  | 7 => ("QualifierGate$Machine", "putOut", "I", false)
  | 8 => ("QualifierGate$Machine", "taken", "I", false)
  | 9 => ("QualifierGate$Machine", "mostAtWork", "I", false)
  | 10 => ("QualifierGate$Machine", "classes", "[I", true)
  | 11 => ("QualifierGate$Machine", "held", "[I", true)
  | 12 => ("QualifierGate$Machine", "works", "[LQualifierGate$Activation;", true)
  | 13 => ("QualifierGate$Machine", "atWork", "I", false)
  | _ => ("QualifierGate$Machine", "ending", "I", false)
def mm_y5 : Nat → FieldType := fun k => match k with
  | 0 => .object "QualifierGate$Stock"
  | 1 => .array .int
  | 2 => .int
  | 3 => .array .int
  | 4 => .int
  | 5 => .int
  | 6 => .int
  | 7 => .int
  | 8 => .int
  | 9 => .int
  | 10 => .array .int
  | 11 => .array .int
  | 12 => .array (.object "QualifierGate$Activation")
  | 13 => .int
  | _ => .int
def mm_T6 : u_T := fun k => match k with
  | 0 => ("QualifierGate$Activation", "method", "LQualifierGate$Method;", false)
  | 1 => ("QualifierGate$Activation", "at", "I", false)
  | 2 => ("QualifierGate$Activation", "locals", "[I", true)
  | 3 => ("QualifierGate$Activation", "stack", "[I", true)
  | _ => ("QualifierGate$Activation", "height", "I", false)
def mm_y6 : Nat → FieldType := fun k => match k with
  | 0 => .object "QualifierGate$Method"
  | 1 => .int
  | 2 => .array .int
  | 3 => .array .int
  | _ => .int
def mm_T7 : u_T := fun k => match k with
  | 0 => ("QualifierGate$Place", "sort", "I", false)
  | 1 => ("QualifierGate$Place", "may", "Z", false)
  | _ => ("QualifierGate$Place", "marks", "I", false)
def mm_y7 : Nat → FieldType := fun k => match k with
  | 0 => .int
  | 1 => .boolean
  | _ => .int
def mm_T8 : u_T := fun k => match k with
  | 0 => ("QualifierGate$Method", "owner", "I", true)
  | 1 => ("QualifierGate$Method", "name", "I", true)
  | 2 => ("QualifierGate$Method", "isStatic", "Z", true)
  | 3 => ("QualifierGate$Method", "params", "[LQualifierGate$Place;", true)
  | 4 => ("QualifierGate$Method", "paramCount", "I", false)
  | 5 => ("QualifierGate$Method", "result", "LQualifierGate$Place;", true)
  | 6 => ("QualifierGate$Method", "builtInKind", "I", false)
  | 7 => ("QualifierGate$Method", "ops", "[I", true)
  | 8 => ("QualifierGate$Method", "args", "[I", true)
  | 9 => ("QualifierGate$Method", "count", "I", false)
  | 10 => ("QualifierGate$Method", "guardFrom", "[I", true)
  | 11 => ("QualifierGate$Method", "guardTo", "[I", true)
  | 12 => ("QualifierGate$Method", "guardAt", "[I", true)
  | _ => ("QualifierGate$Method", "guardCount", "I", false)
def mm_y8 : Nat → FieldType := fun k => match k with
  | 0 => .int
  | 1 => .int
  | 2 => .boolean
  | 3 => .array (.object "QualifierGate$Place")
  | 4 => .int
  | 5 => .object "QualifierGate$Place"
  | 6 => .int
  | 7 => .array .int
  | 8 => .array .int
  | 9 => .int
  | 10 => .array .int
  | 11 => .array .int
  | 12 => .array .int
  | _ => .int
def mm_T9 : u_T := fun k => match k with
  | 0 => ("QualifierGateModel", "classes", "I", false)
  | 1 => ("QualifierGateModel", "fields", "I", false)
  | 2 => ("QualifierGateModel", "methods", "I", false)
  | 3 => ("QualifierGateModel", "above", "[I", true)
  | 4 => ("QualifierGateModel", "fOwner", "[I", true)
  | 5 => ("QualifierGateModel", "fSort", "[I", true)
  | 6 => ("QualifierGateModel", "fMarks", "[I", true)
  | 7 => ("QualifierGateModel", "loaded", "[Z", true)
  | 8 => ("QualifierGateModel", "fMay", "[Z", true)
  | 9 => ("QualifierGateModel", "mOwner", "[I", true)
  | 10 => ("QualifierGateModel", "mName", "[I", true)
  | 11 => ("QualifierGateModel", "mParams", "[I", true)
  | 12 => ("QualifierGateModel", "mKind", "[I", true)
  | 13 => ("QualifierGateModel", "mLength", "[I", true)
  | 14 => ("QualifierGateModel", "mGuards", "[I", true)
  | 15 => ("QualifierGateModel", "sorts", "[I", true)
  | 16 => ("QualifierGateModel", "marks", "[I", true)
  | 17 => ("QualifierGateModel", "mStatic", "[Z", true)
  | 18 => ("QualifierGateModel", "mays", "[Z", true)
  | 19 => ("QualifierGateModel", "ops", "[I", true)
  | 20 => ("QualifierGateModel", "args", "[I", true)
  | 21 => ("QualifierGateModel", "gFrom", "[I", true)
  | 22 => ("QualifierGateModel", "gTo", "[I", true)
  | 23 => ("QualifierGateModel", "gAt", "[I", true)
  | 24 => ("QualifierGateModel", "high", "[I", true)
  | 25 => ("QualifierGateModel", "site", "[I", true)
  | 26 => ("QualifierGateModel", "sets", "[I", true)
  | 27 => ("QualifierGateModel", "kinds", "[I", true)
  | 28 => ("QualifierGateModel", "refs", "[I", true)
  | 29 => ("QualifierGateModel", "vMarks", "[I", true)
  | 30 => ("QualifierGateModel", "origins", "[I", true)
  | 31 => ("QualifierGateModel", "nulls", "[Z", true)
  | 32 => ("QualifierGateModel", "seen", "I", false)
  | 33 => ("QualifierGateModel", "place", "I", false)
  | 34 => ("QualifierGateModel", "changes", "Z", false)
  | 35 => ("QualifierGateModel", "h", "I", false)
  | 36 => ("QualifierGateModel", "s", "I", false)
  | 37 => ("QualifierGateModel", "f", "I", false)
  | 38 => ("QualifierGateModel", "k", "[I", true)
  | 39 => ("QualifierGateModel", "c", "[I", true)
  | 40 => ("QualifierGateModel", "w", "[I", true)
  | 41 => ("QualifierGateModel", "o", "[I", true)
  | 42 => ("QualifierGateModel", "n", "[Z", true)
  | 43 => ("QualifierGateModel", "inputs", "[I", true)
  | 44 => ("QualifierGateModel", "objectClass", "[I", true)
  | 45 => ("QualifierGateModel", "contents", "[I", true)
  | 46 => ("QualifierGateModel", "locals", "[I", true)
  | 47 => ("QualifierGateModel", "stack", "[I", true)
  | 48 => ("QualifierGateModel", "heights", "[I", true)
  | 49 => ("QualifierGateModel", "at", "[I", true)
  | 50 => ("QualifierGateModel", "in", "[I", true)
  | 51 => ("QualifierGateModel", "out", "[I", true)
  | 52 => ("QualifierGateModel", "inputCount", "I", false)
  | 53 => ("QualifierGateModel", "objects", "I", false)
  | 54 => ("QualifierGateModel", "taken", "I", false)
  | 55 => ("QualifierGateModel", "put", "I", false)
  | 56 => ("QualifierGateModel", "begun", "I", false)
  | 57 => ("QualifierGateModel", "depth", "I", false)
  | 58 => ("QualifierGateModel", "deepest", "I", false)
  | 59 => ("QualifierGateModel", "end", "I", false)
  | _ => ("QualifierGateModel", "value", "I", false)
def mm_y9 : Nat → FieldType := fun k => match k with
  | 0 => .int
  | 1 => .int
  | 2 => .int
  | 3 => .array .int
  | 4 => .array .int
  | 5 => .array .int
  | 6 => .array .int
  | 7 => .array .boolean
  | 8 => .array .boolean
  | 9 => .array .int
  | 10 => .array .int
  | 11 => .array .int
  | 12 => .array .int
  | 13 => .array .int
  | 14 => .array .int
  | 15 => .array .int
  | 16 => .array .int
  | 17 => .array .boolean
  | 18 => .array .boolean
  | 19 => .array .int
  | 20 => .array .int
  | 21 => .array .int
  | 22 => .array .int
  | 23 => .array .int
  | 24 => .array .int
  | 25 => .array .int
  | 26 => .array .int
  | 27 => .array .int
  | 28 => .array .int
  | 29 => .array .int
  | 30 => .array .int
  | 31 => .array .boolean
  | 32 => .int
  | 33 => .int
  | 34 => .boolean
  | 35 => .int
  | 36 => .int
  | 37 => .int
  | 38 => .array .int
  | 39 => .array .int
  | 40 => .array .int
  | 41 => .array .int
  | 42 => .array .boolean
  | 43 => .array .int
  | 44 => .array .int
  | 45 => .array .int
  | 46 => .array .int
  | 47 => .array .int
  | 48 => .array .int
  | 49 => .array .int
  | 50 => .array .int
  | 51 => .array .int
  | 52 => .int
  | 53 => .int
  | 54 => .int
  | 55 => .int
  | 56 => .int
  | 57 => .int
  | 58 => .int
  | 59 => .int
  | _ => .int
/-- the classes whose objects the worlds hold -/
abbrev mm_cl : List vw_C := [("QualifierGate", mm_T0, 4), ("QualifierGate$Stock", mm_T1, 10), ("QualifierGate$Look", mm_T2, 7), ("QualifierGate$Frame", mm_T3, 5), ("QualifierGate$Rules", mm_T4, 1), ("QualifierGate$Machine", mm_T5, 15), ("QualifierGate$Activation", mm_T6, 5), ("QualifierGate$Place", mm_T7, 3), ("QualifierGate$Method", mm_T8, 14), ("QualifierGateModel", mm_T9, 61)]
/-- the names of all classes with code -/
def mm_N : List String := ["QualifierGate", "QualifierGate$Stock", "QualifierGate$Look", "QualifierGate$Frame", "QualifierGate$Rules", "QualifierGate$Machine", "QualifierGate$Activation", "QualifierGate$Place", "QualifierGate$Method", "QualifierGateModel", "QualifierGateLaw", "QualifierGate$Value", "QualifierGate$Op"]
/-- for each class its fields: 0 int, 1 boolean, 2 reference -/
def mm_fks : List (List Nat) := [[2, 2, 2, 0], [0, 2, 2, 2, 1, 0, 2, 2, 0, 2], [2, 2, 2, 2, 2, 2, 0], [2, 0, 0, 0, 1], [2], [2, 2, 0, 2, 0, 0, 0, 0, 0, 0, 2, 2, 2, 0, 0], [2, 0, 2, 2, 0], [0, 1, 0], [0, 0, 1, 2, 0, 2, 0, 2, 2, 0, 2, 2, 2, 0], [0, 0, 0, 2, 2, 2, 2, 2, 2, 2, 2, 2, 2, 2, 2, 2, 2, 2, 2, 2, 2, 2, 2, 2, 2, 2, 2, 2, 2, 2, 2, 2, 0, 0, 1, 0, 0, 0, 2, 2, 2, 2, 2, 2, 2, 2, 2, 2, 2, 2, 2, 2, 0, 0, 0, 0, 0, 0, 0, 0, 0]]
/-- which fields are final -/
def mm_fin : List (List Bool) := [[true, true, true, false], [false, true, true, true, false, false, true, true, false, true], [true, true, true, true, true, false, false], [true, false, false, false, false], [true], [true, true, false, true, false, false, false, false, false, false, true, true, true, false, false], [false, false, true, true, false], [false, false, false], [true, true, true, true, false, true, false, true, true, false, true, true, true, false], [false, false, false, true, true, true, true, true, true, true, true, true, true, true, true, true, true, true, true, true, true, true, true, true, true, true, true, true, true, true, true, true, false, false, false, false, false, false, true, true, true, true, true, true, true, true, true, true, true, true, true, true, false, false, false, false, false, false, false, false, false]]
def mm_ty : List (Nat → FieldType) := [mm_y0, mm_y1, mm_y2, mm_y3, mm_y4, mm_y5, mm_y6, mm_y7, mm_y8, mm_y9]
/-- types of arrays -/
def mm_aty : List FieldType := [.int, .boolean, .object "QualifierGate$Place", .object "QualifierGate$Method", .object "QualifierGate$Frame", .object "QualifierGate$Activation"]
/-- the class of an array's places, for arrays of references -/
def mm_ac : List Nat := [0, 0, 7, 8, 3, 6]
/-- links of fields: class, entry, field, place among the words -/
def mm_fl : List (Nat × Nat × Nat × Nat) := [(0, 10, 0, 320), (0, 21, 1, 321), (0, 28, 2, 322), (0, 32, 3, 323), (0, 36, 68, 120), (0, 44, 64, 112), (0, 55, 69, 122), (0, 74, 72, 130), (0, 89, 73, 133), (0, 93, 516, 428), (0, 100, 517, 434), (0, 107, 518, 438), (0, 115, 521, 455), (0, 122, 525, 460), (0, 139, 67, 119), (0, 143, 65, 115), (0, 147, 512, 411), (0, 158, 193, 178), (0, 163, 194, 181), (0, 166, 195, 185), (0, 169, 192, 174), (0, 177, 322, 269), (0, 190, 324, 273), (0, 193, 327, 279), (0, 201, 323, 271), (0, 204, 325, 275), (0, 207, 326, 277), (0, 210, 328, 281), (0, 213, 329, 283), (0, 216, 134, 216), (1, 9, 64, 111), (1, 15, 65, 113), (1, 19, 66, 116), (1, 22, 67, 117), (1, 26, 70, 124), (1, 31, 71, 126), (1, 37, 73, 131), (1, 41, 69, 121), (1, 44, 72, 129), (1, 58, 512, 409), (1, 61, 513, 415), (1, 68, 519, 445), (1, 71, 520, 450), (1, 94, 514, 421), (1, 101, 516, 431), (1, 104, 515, 425), (1, 107, 448, 371), (2, 11, 130, 211), (2, 18, 131, 212), (2, 22, 132, 213), (2, 25, 128, 209), (2, 34, 129, 210), (2, 42, 133, 214), (2, 46, 193, 177), (2, 50, 196, 186), (2, 64, 521, 453), (2, 81, 134, 215), (2, 84, 65, 114), (2, 90, 512, 408), (2, 93, 513, 414), (2, 104, 194, 180), (2, 107, 195, 184), (2, 110, 192, 173), (2, 119, 514, 418), (2, 122, 516, 429), (2, 125, 515, 423), (2, 133, 449, 374), (2, 146, 519, 444), (2, 158, 520, 449), (2, 227, 73, 135), (2, 240, 71, 128), (2, 249, 517, 435), (3, 9, 192, 172), (3, 15, 193, 175), (3, 19, 194, 179), (3, 28, 195, 182), (3, 59, 196, 187), (4, 9, 256, 205), (4, 15, 193, 176), (4, 31, 519, 442), (4, 43, 521, 452), (4, 49, 520, 447), (4, 69, 195, 183), (4, 75, 70, 125), (4, 81, 71, 127), (4, 89, 73, 132), (4, 105, 517, 433), (4, 135, 448, 370), (4, 140, 449, 375), (4, 143, 450, 378), (4, 145, 516, 430), (4, 148, 515, 424), (4, 151, 514, 419), (4, 154, 512, 410), (4, 157, 69, 123), (4, 160, 518, 439), (5, 9, 321, 267), (5, 15, 323, 270), (5, 18, 330, 284), (5, 21, 331, 285), (5, 26, 332, 286), (5, 30, 320, 266), (5, 35, 322, 268), (5, 39, 324, 272), (5, 42, 325, 274), (5, 45, 326, 276), (5, 48, 327, 278), (5, 51, 328, 280), (5, 54, 329, 282), (5, 57, 333, 287), (5, 60, 334, 288), (5, 67, 516, 427), (5, 72, 386, 250), (5, 89, 385, 248), (5, 92, 384, 246), (5, 96, 521, 454), (5, 103, 520, 448), (5, 106, 519, 443), (5, 133, 73, 134), (5, 152, 67, 118), (5, 163, 388, 254), (5, 169, 514, 420), (5, 173, 387, 252), (5, 179, 513, 416), (5, 186, 512, 412), (5, 206, 518, 440), (5, 212, 517, 436), (5, 216, 448, 372), (6, 9, 386, 249), (6, 15, 387, 251), (6, 18, 384, 245), (6, 22, 385, 247), (6, 26, 388, 253), (7, 13, 448, 367), (7, 17, 449, 373), (7, 21, 450, 376), (8, 11, 515, 422), (8, 20, 517, 432), (8, 24, 518, 437), (8, 28, 519, 441), (8, 32, 520, 446), (8, 35, 522, 456), (8, 38, 523, 457), (8, 41, 524, 458), (8, 44, 512, 407), (8, 47, 513, 413), (8, 50, 514, 417), (8, 54, 516, 426), (8, 57, 521, 451), (8, 60, 525, 459), (8, 63, 448, 369), (9, 7, 576, 956), (9, 13, 579, 959), (9, 17, 580, 960), (9, 20, 581, 961), (9, 23, 582, 962), (9, 26, 583, 963), (9, 30, 584, 964), (9, 33, 585, 965), (9, 36, 586, 966), (9, 39, 587, 967), (9, 42, 588, 968), (9, 45, 589, 969), (9, 48, 590, 970), (9, 51, 591, 971), (9, 54, 592, 972), (9, 57, 593, 973), (9, 60, 594, 974), (9, 63, 595, 975), (9, 66, 596, 976), (9, 69, 597, 977), (9, 72, 598, 978), (9, 75, 599, 979), (9, 78, 600, 980), (9, 81, 601, 981), (9, 84, 602, 982), (9, 87, 603, 983), (9, 90, 604, 984), (9, 93, 605, 985), (9, 96, 606, 986), (9, 99, 607, 987), (9, 102, 608, 988), (9, 105, 609, 989), (9, 108, 614, 994), (9, 111, 615, 995), (9, 114, 616, 996), (9, 117, 617, 997), (9, 120, 618, 998), (9, 123, 619, 999), (9, 126, 620, 1000), (9, 129, 621, 1001), (9, 132, 622, 1002), (9, 135, 623, 1003), (9, 138, 624, 1004), (9, 141, 625, 1005), (9, 144, 626, 1006), (9, 147, 627, 1007), (9, 154, 578, 958), (9, 169, 577, 957), (9, 193, 611, 991), (9, 203, 612, 992), (9, 206, 613, 993), (9, 209, 610, 990), (9, 296, 628, 1008), (9, 299, 629, 1009), (9, 302, 630, 1010), (9, 305, 631, 1011), (9, 308, 632, 1012), (9, 311, 633, 1013), (9, 314, 634, 1014), (9, 317, 635, 1015), (9, 320, 636, 1016), (11, 11, 448, 368), (11, 17, 450, 377)]
def mm_ml : List (Nat × Nat × Nat × Nat) := [(0, 1, 1000, 98), (0, 9, 27, 103), (0, 18, 66, 161), (0, 27, 85, 234), (0, 40, 31, 337), (0, 47, 28, 344), (0, 51, 33, 352), (0, 60, 15, 359), (0, 63, 29, 386), (0, 67, 123, 394), (0, 70, 37, 395), (0, 79, 17, 401), (0, 82, 30, 490), (0, 86, 32, 498), (0, 96, 18, 502), (0, 104, 16, 510), (0, 112, 34, 519), (0, 118, 19, 524), (0, 125, 20, 532), (0, 129, 21, 540), (0, 133, 68, 548), (0, 136, 122, 791), (0, 150, 69, 799), (0, 154, 67, 828), (0, 172, 14, 833), (0, 180, 86, 840), (0, 183, 41, 848), (0, 186, 87, 853), (0, 196, 1003, 945), (1, 3, 1000, 106), (1, 51, 31, 356), (1, 55, 32, 523), (1, 64, 37, 807), (1, 74, 24, 603), (1, 78, 23, 608), (1, 87, 39, 599), (1, 98, 22, 852), (2, 3, 1000, 164), (2, 31, 50, 201), (2, 54, 22, 552), (2, 60, 62, 556), (2, 67, 70, 572), (2, 71, 71, 587), (2, 74, 51, 736), (2, 78, 53, 749), (2, 96, 38, 803), (2, 100, 65, 808), (2, 115, 3, 576), (2, 129, 25, 579), (2, 138, 4, 583), (2, 142, 72, 591), (2, 149, 40, 595), (2, 153, 43, 613), (2, 161, 75, 620), (2, 165, 76, 665), (2, 169, 1, 695), (2, 173, 74, 698), (2, 177, 0, 722), (2, 180, 2, 725), (2, 183, 26, 728), (2, 187, 73, 732), (2, 191, 44, 624), (2, 194, 49, 702), (2, 198, 10, 628), (2, 202, 47, 631), (2, 205, 46, 643), (2, 208, 45, 647), (2, 211, 8, 648), (2, 214, 48, 651), (2, 218, 5, 664), (2, 221, 77, 669), (2, 224, 78, 673), (2, 231, 79, 677), (2, 235, 7, 683), (2, 237, 80, 686), (2, 243, 24, 681), (2, 246, 23, 682), (2, 253, 9, 690), (2, 256, 11, 691), (2, 260, 12, 692), (3, 3, 1000, 171), (3, 22, 1001, 617), (3, 31, 45, 635), (3, 35, 10, 639), (3, 41, 9, 640), (3, 45, 5, 655), (3, 48, 6, 658), (3, 51, 11, 661), (3, 55, 43, 706), (3, 63, 48, 707), (3, 67, 13, 708), (4, 3, 1000, 204), (4, 21, 52, 740), (4, 25, 40, 748), (4, 37, 0, 744), (4, 46, 1, 745), (4, 52, 2, 746), (4, 55, 26, 747), (4, 59, 46, 753), (4, 62, 55, 754), (4, 65, 54, 758), (4, 72, 61, 764), (4, 78, 58, 769), (4, 85, 59, 778), (4, 93, 60, 787), (4, 97, 57, 782), (4, 101, 23, 560), (4, 109, 1003, 761), (4, 114, 5, 757), (4, 119, 6, 768), (4, 122, 35, 568), (4, 126, 56, 773), (4, 129, 7, 777), (4, 132, 8, 786), (4, 163, 63, 564), (4, 167, 64, 812), (5, 3, 1000, 237), (5, 63, 88, 857), (5, 75, 89, 868), (5, 79, 82, 861), (5, 83, 1002, 865), (5, 109, 91, 873), (5, 113, 84, 880), (5, 117, 83, 876), (5, 121, 90, 884), (5, 124, 93, 888), (5, 127, 94, 892), (5, 130, 95, 900), (5, 139, 97, 904), (5, 143, 96, 918), (5, 146, 99, 932), (5, 149, 101, 923), (5, 156, 92, 896), (5, 160, 35, 922), (5, 166, 24, 908), (5, 176, 1003, 909), (5, 182, 38, 910), (5, 189, 22, 911), (5, 193, 98, 912), (5, 197, 1001, 917), (5, 203, 25, 916), (5, 209, 23, 936), (5, 221, 100, 928), (5, 225, 26, 927), (6, 3, 1000, 244), (7, 1, 1000, 362), (7, 7, 16, 363), (8, 3, 1000, 404), (8, 17, 15, 406), (8, 66, 25, 607), (9, 1, 1000, 955), (9, 150, 125, 1152), (9, 157, 126, 1148), (9, 161, 128, 1144), (9, 165, 130, 1159), (9, 172, 133, 1167), (9, 176, 127, 1175), (9, 179, 137, 1179), (9, 183, 143, 1259), (9, 186, 144, 1247), (9, 190, 145, 1251), (9, 196, 148, 1219), (9, 200, 149, 1267), (9, 213, 153, 1227), (9, 217, 155, 1231), (9, 221, 129, 1235), (9, 224, 151, 1215), (9, 228, 154, 1223), (9, 232, 158, 1239), (9, 235, 147, 1243), (9, 238, 146, 1255), (9, 241, 152, 1263), (9, 244, 159, 1271), (9, 247, 156, 1275), (9, 250, 150, 1279), (9, 254, 161, 1295), (9, 257, 160, 1291), (9, 261, 163, 1299), (9, 264, 166, 1302), (9, 267, 162, 1306), (9, 271, 165, 1310), (9, 275, 157, 1211), (9, 278, 167, 1283), (9, 281, 164, 1287), (9, 284, 168, 1207), (9, 287, 134, 1322), (9, 290, 170, 1326), (9, 293, 171, 1318), (9, 323, 178, 1350), (9, 326, 181, 1354), (9, 329, 179, 1358), (9, 333, 180, 1362), (9, 336, 182, 1366), (9, 339, 183, 1370), (9, 342, 186, 1378), (9, 345, 185, 1382), (9, 348, 184, 1374), (10, 9, 102, 95), (10, 12, 124, 952), (10, 13, 103, 333), (10, 17, 131, 1140), (10, 18, 104, 348), (10, 22, 132, 1155), (10, 23, 105, 390), (10, 27, 135, 1163), (10, 28, 106, 494), (10, 31, 136, 1171), (10, 32, 107, 506), (10, 36, 138, 1183), (10, 37, 108, 511), (10, 41, 139, 1187), (10, 42, 109, 515), (10, 46, 140, 1191), (10, 47, 110, 528), (10, 51, 141, 1195), (10, 52, 111, 536), (10, 55, 142, 1199), (10, 56, 112, 544), (10, 59, 169, 1203), (10, 60, 113, 795), (10, 63, 172, 1314), (10, 64, 114, 816), (10, 68, 173, 1330), (10, 69, 115, 820), (10, 73, 174, 1334), (10, 74, 116, 824), (10, 77, 175, 1338), (10, 78, 117, 836), (10, 81, 176, 1342), (10, 82, 118, 844), (10, 85, 177, 1346), (10, 86, 119, 937), (10, 89, 187, 1386), (10, 90, 120, 941), (10, 93, 188, 1390), (10, 94, 121, 946), (10, 97, 189, 1394), (11, 20, 3, 586), (11, 24, 5, 711), (11, 28, 7, 712), (11, 32, 8, 713), (11, 34, 9, 714), (11, 37, 10, 715), (11, 41, 6, 716), (11, 44, 36, 717), (11, 49, 11, 721)]
def mm_mn : List (Nat × Nat × Nat) := [(1, 47, 123), (2, 17, 42), (2, 38, 123), (5, 34, 81), (5, 99, 123)]
def mm_nc : List (Nat × Nat × Nat × Nat) := [(0, 7, 1, 101), (0, 16, 2, 159), (0, 25, 5, 232), (0, 58, 7, 357), (0, 77, 8, 399), (2, 9, 3, 165), (2, 29, 4, 199), (5, 24, 6, 238), (8, 9, 7, 405), (10, 7, 0, 93), (10, 10, 9, 950)]
def mm_na : List (Nat × Nat × Nat × Nat) := [(1, 29, 2, 107), (1, 35, 3, 109), (2, 9, 4, 165), (5, 24, 5, 238), (8, 9, 2, 405)]
def mm_sl : List (Nat × Nat × Nat) := [(1, 82, 1), (1, 91, 2)]
end
section
/-! THE SMALL MACHINE: a heap of numbered cells (0 is null), frames of ints and references; what the code does on it -/
/-- a heap: kinds of cells (0 none, 1 + c an object of class c, 20 + t an array of type t), int fields (field, cell), reference fields, lengths, ints of arrays (cell, place), references of arrays, how many cells, how many slots -/
abbrev mm_H : Type := (Nat → Nat) × (Nat → Nat → Int32) × (Nat → Nat → Nat) × (Nat → Nat) × (Nat → Nat → Int32) × (Nat → Nat → Nat) × Nat × Nat
def mm_k (h : mm_H) : Nat → Nat := h.1
def mm_i (h : mm_H) : Nat → Nat → Int32 := h.2.1
def mm_r (h : mm_H) : Nat → Nat → Nat := h.2.2.1
def mm_n (h : mm_H) : Nat → Nat := h.2.2.2.1
def mm_a (h : mm_H) : Nat → Nat → Int32 := h.2.2.2.2.1
def mm_q (h : mm_H) : Nat → Nat → Nat := h.2.2.2.2.2.1
def mm_t (h : mm_H) : Nat := h.2.2.2.2.2.2.1
def mm_s (h : mm_H) : Nat := h.2.2.2.2.2.2.2
/-- one place of a table of two keys gets a value -/
def mm_u {α : Type} (g : Nat → Nat → α) (x y : Nat) (v : α) : Nat → Nat → α := fun a b => if a = x ∧ b = y then v else g a b
def mm_u1 {α : Type} (g : Nat → α) (x : Nat) (v : α) : Nat → α := fun a => if a = x then v else g a
/-- an int field, a reference field, an int of an array, a reference of an array is written -/
def mm_si (h : mm_H) (f a : Nat) (x : Int32) : mm_H := (mm_k h, mm_u (mm_i h) f a x, mm_r h, mm_n h, mm_a h, mm_q h, mm_t h, mm_s h)
def mm_sr (h : mm_H) (f a : Nat) (x : Nat) : mm_H := (mm_k h, mm_i h, mm_u (mm_r h) f a x, mm_n h, mm_a h, mm_q h, mm_t h, mm_s h)
def mm_sa (h : mm_H) (a j : Nat) (x : Int32) : mm_H := (mm_k h, mm_i h, mm_r h, mm_n h, mm_u (mm_a h) a j x, mm_q h, mm_t h, mm_s h)
def mm_sq (h : mm_H) (a j : Nat) (x : Nat) : mm_H := (mm_k h, mm_i h, mm_r h, mm_n h, mm_a h, mm_u (mm_q h) a j x, mm_t h, mm_s h)
/-- a row of ints of an array is copied -/
def mm_sc (h : mm_H) (a b sp dp n : Nat) : mm_H := (mm_k h, mm_i h, mm_r h, mm_n h, mm_u1 (mm_a h) b (va_cpy (mm_a h a) (mm_a h b) sp dp n), mm_q h, mm_t h, mm_s h)
/-- a new cell of a kind, of n places: an object (lengths stay), an array -/
def mm_new (h : mm_H) (k n : Nat) : mm_H := (mm_u1 (mm_k h) (mm_t h + 1) k, (fun f a => if a = mm_t h + 1 then 0 else mm_i h f a), (fun f a => if a = mm_t h + 1 then 0 else mm_r h f a), mm_u1 (mm_n h) (mm_t h + 1) n, mm_u1 (mm_a h) (mm_t h + 1) (fun _ => 0), mm_u1 (mm_q h) (mm_t h + 1) (fun _ => 0), mm_t h + 1, mm_s h + n)
/-- the kind of a field -/
def mm_fk (f : Nat) : Nat := (mm_fks.getD (f / 64) []).getD (f % 64) 3
/-- arrays that are only read: length and contents (0 the script, 1 POPS, 2 PUSHES) -/
abbrev mm_Ro : Type := Nat → Nat × (Nat → Int32)
def mm_gv (h : mm_H) (f a : Nat) : Value := if mm_fk f = 2 then .ref (mm_r h f a) else .int (mm_i h f a)
/-- an index within -/
abbrev mm_in (x : Int32) (n : Nat) : Prop := 0 ≤ x.toInt ∧ x.toInt < n
def mm_tg (pc : Nat) (off : Int) : Nat := ((pc : Int) + off).toNat
def mm_cc (c : Jvm.ClassFile.Cond) (x y : Int32) : Bool := match c with
  | .eq => decide (x = y)
  | .ne => decide (¬ x = y)
  | .lt => decide (x < y)
  | .ge => decide (y ≤ x)
  | .gt => decide (y < x)
  | .le => decide (x ≤ y)
/-- one step that is no call and no end -/
def mm_st (ro : mm_Ro) (i : Instr) (pc : Nat) (L S : List Value) (h : mm_H) : Option (Nat × List Value × List Value × mm_H) :=
  match i with
  | .iload k => match L[k]? with
    | some (.int x) => some (pc + 2, L, .int x :: S, h)
    | _ => none
  | .iload_n k => match L[k.val]? with
    | some (.int x) => some (pc + 1, L, .int x :: S, h)
    | _ => none
  | .aload k => match L[k]? with
    | some (.ref x) => some (pc + 2, L, .ref x :: S, h)
    | some (.retAddr x) => some (pc + 2, L, .retAddr x :: S, h)
    | _ => none
  | .aload_n k => match L[k.val]? with
    | some (.ref x) => some (pc + 1, L, .ref x :: S, h)
    | some (.retAddr x) => some (pc + 1, L, .retAddr x :: S, h)
    | _ => none
  | .istore k => match S with
    | .int x :: S => some (pc + 2, L.set k (.int x), S, h)
    | _ => none
  | .istore_n k => match S with
    | .int x :: S => some (pc + 1, L.set k.val (.int x), S, h)
    | _ => none
  | .astore k => match S with
    | .ref x :: S => some (pc + 2, L.set k (.ref x), S, h)
    | _ => none
  | .astore_n k => match S with
    | .ref x :: S => some (pc + 1, L.set k.val (.ref x), S, h)
    | _ => none
  | .iinc k n => match L[k]? with
    | some (.int x) => some (pc + 3, L.set k (.int (x + Int32.ofInt n)), S, h)
    | _ => none
  | .iconst n => some (pc + 1, L, .int (Int32.ofInt n) :: S, h)
  | .bipush n => some (pc + 2, L, .int (Int8.ofInt n).toInt32 :: S, h)
  | .sipush n => some (pc + 3, L, .int (Int16.ofInt n).toInt32 :: S, h)
  | .aconst_null => some (pc + 1, L, .ref 0 :: S, h)
  | .dup => match S with
    | .int x :: S => some (pc + 1, L, .int x :: .int x :: S, h)
    | .ref x :: S => some (pc + 1, L, .ref x :: .ref x :: S, h)
    | _ => none
  | .dup2 => match S with
    | .int x :: .ref y :: S => some (pc + 1, L, .int x :: .ref y :: .int x :: .ref y :: S, h)
    | _ => none
  | .pop => match S with
    | .int _ :: S => some (pc + 1, L, S, h)
    | .ref _ :: S => some (pc + 1, L, S, h)
    | _ => none
  | .iadd => match S with
    | .int y :: .int x :: S => some (pc + 1, L, .int (x + y) :: S, h)
    | _ => none
  | .isub => match S with
    | .int y :: .int x :: S => some (pc + 1, L, .int (x - y) :: S, h)
    | _ => none
  | .imul => match S with
    | .int y :: .int x :: S => some (pc + 1, L, .int (x * y) :: S, h)
    | _ => none
  | .iand => match S with
    | .int y :: .int x :: S => some (pc + 1, L, .int (x &&& y) :: S, h)
    | _ => none
  | .ior => match S with
    | .int y :: .int x :: S => some (pc + 1, L, .int (x ||| y) :: S, h)
    | _ => none
  | .ixor => match S with
    | .int y :: .int x :: S => some (pc + 1, L, .int (x ^^^ y) :: S, h)
    | _ => none
  | .ishl => match S with
    | .int y :: .int x :: S => some (pc + 1, L, .int (x <<< (y &&& 31)) :: S, h)
    | _ => none
  | .ishr => match S with
    | .int y :: .int x :: S => some (pc + 1, L, .int (x >>> (y &&& 31)) :: S, h)
    | _ => none
  | .goto off => some (mm_tg pc off, L, S, h)
  | .ifCond c off => match S with
    | .int x :: S => some (if mm_cc c x 0 then mm_tg pc off else pc + 3, L, S, h)
    | _ => none
  | .if_icmp c off => match S with
    | .int y :: .int x :: S => some (if mm_cc c x y then mm_tg pc off else pc + 3, L, S, h)
    | _ => none
  | .ifnull off => match S with
    | .ref x :: S => some (if x = 0 then mm_tg pc off else pc + 3, L, S, h)
    | _ => none
  | .ifnonnull off => match S with
    | .ref x :: S => some (if x = 0 then pc + 3 else mm_tg pc off, L, S, h)
    | _ => none
  | .tableswitch d lo hi offs => match S with
    | .int x :: S => if x.toInt < lo ∨ hi < x.toInt then some (mm_tg pc d, L, S, h) else match offs[(x.toInt - lo).toNat]? with
      | some off => some (mm_tg pc off, L, S, h)
      | none => none
    | _ => none
  | .lookupswitch d ps => match S with
    | .int x :: S => some (mm_tg pc (Op.lookupswitch.offset ps.toList d x.toInt), L, S, h)
    | _ => none
  | .getfield f => match S with
    | .ref a :: S => if mm_k h a = f / 64 + 1 then some (pc + 3, L, mm_gv h f a :: S, h) else none
    | _ => none
  | .putfield f => match S with
    | .int x :: .ref a :: S => if mm_k h a = f / 64 + 1 ∧ (mm_fk f = 0 ∨ mm_fk f = 1 ∧ (x = 0 ∨ x = 1)) then some (pc + 3, L, S, mm_si h f a x) else none
    | .ref x :: .ref a :: S => if mm_k h a = f / 64 + 1 ∧ mm_fk f = 2 then some (pc + 3, L, S, mm_sr h f a x) else none
    | _ => none
  | .getstatic k => some (pc + 3, L, .retAddr k :: S, h)
  | .iaload => match S with
    | .int x :: .ref a :: S => if mm_k h a = 20 ∧ mm_in x (mm_n h a) then some (pc + 1, L, .int (mm_a h a x.toNatClampNeg) :: S, h) else none
    | .int x :: .retAddr k :: S => if mm_in x (ro k).1 then some (pc + 1, L, .int ((ro k).2 x.toNatClampNeg) :: S, h) else none
    | _ => none
  | .baload => match S with
    | .int x :: .ref a :: S => if mm_k h a = 21 ∧ mm_in x (mm_n h a) then some (pc + 1, L, .int (mm_a h a x.toNatClampNeg) :: S, h) else none
    | _ => none
  | .aaload => match S with
    | .int x :: .ref a :: S => if (22 ≤ mm_k h a ∧ mm_k h a < 26) ∧ mm_in x (mm_n h a) then some (pc + 1, L, .ref (mm_q h a x.toNatClampNeg) :: S, h) else none
    | _ => none
  | .iastore => match S with
    | .int v :: .int x :: .ref a :: S => if mm_k h a = 20 ∧ mm_in x (mm_n h a) then some (pc + 1, L, S, mm_sa h a x.toNatClampNeg v) else none
    | _ => none
  | .bastore => match S with
    | .int v :: .int x :: .ref a :: S => if mm_k h a = 21 ∧ mm_in x (mm_n h a) ∧ (v = 0 ∨ v = 1) then some (pc + 1, L, S, mm_sa h a x.toNatClampNeg v) else none
    | _ => none
  | .aastore => match S with
    | .ref v :: .int x :: .ref a :: S => if (22 ≤ mm_k h a ∧ mm_k h a < 26) ∧ mm_in x (mm_n h a) ∧ mm_k h v = mm_ac.getD (mm_k h a - 20) 0 + 1 then some (pc + 1, L, S, mm_sq h a x.toNatClampNeg v) else none
    | _ => none
  | .arraylength => match S with
    | .ref a :: S => if 20 ≤ mm_k h a ∧ mm_k h a < 26 then some (pc + 1, L, .int (Int32.ofNat (mm_n h a)) :: S, h) else none
    | .retAddr k :: S => some (pc + 1, L, .int (Int32.ofNat (ro k).1) :: S, h)
    | _ => none
  | .newarray t => match S with
    | .int x :: S => if ¬ x < 0 ∧ x.toNatClampNeg ≤ 100000 ∧ (t = .int ∨ t = .boolean) then some (pc + 2, L, .ref (mm_t h + 1) :: S, mm_new h (if t = .int then 20 else 21) x.toNatClampNeg) else none
    | _ => none
  | .anewarray t => match S with
    | .int x :: S => if ¬ x < 0 ∧ x.toNatClampNeg ≤ 100000 ∧ 2 ≤ t ∧ t < 6 then some (pc + 3, L, .ref (mm_t h + 1) :: S, mm_new h (20 + t) x.toNatClampNeg) else none
    | _ => none
  | .new c => if c < 10 then some (pc + 3, L, .ref (mm_t h + 1) :: S, mm_new h (c + 1) (mm_fks.getD c []).length) else none
  | .invokespecial z => match S with
    | .ref a :: S => if z = 1000 ∧ mm_k h a ≠ 0 ∧ mm_k h a < 20 ∧ S.length ≤ 8 then some (pc + 3, L, S, h) else none
    | _ => none
  | .invokestatic z => match S with
    | .int n :: .int dp :: .ref b :: .int sp :: .ref a :: S => if z = 1001 ∧ mm_k h a = 20 ∧ mm_k h b = 20 ∧ ¬ sp < 0 ∧ ¬ dp < 0 ∧ ¬ n < 0 ∧ sp.toNatClampNeg + n.toNatClampNeg ≤ mm_n h a ∧ dp.toNatClampNeg + n.toNatClampNeg ≤ mm_n h b ∧ S.length ≤ 8 then some (pc + 3, L, S, mm_sc h a b sp.toNatClampNeg dp.toNatClampNeg n.toNatClampNeg) else none
    | .int y :: .int x :: S => if z = 1002 ∧ S.length ≤ 8 then some (pc + 3, L, .int (if x < y then y else x) :: S, h) else if z = 1003 ∧ S.length ≤ 8 then some (pc + 3, L, .int (if y < x then y else x) :: S, h) else none
    | _ => none
  | _ => none
/-- an end: what is given (null where nothing is) -/
def mm_rt (ret : Option FieldType) (i : Instr) (S : List Value) : Option Value :=
  match i, S with
  | .ireturn, [.int x] => if ret = some .int ∨ ret = some .boolean ∧ (x = 0 ∨ x = 1) then some (.int x) else none
  | .areturn, [.ref a] => if ret = none ∨ ret = some .int ∨ ret = some .boolean then none else some (.ref a)
  | .return_, [] => if ret = none then some .null else none
  | _, _ => none
/-- a call: the number of the method -/
def mm_ca (i : Instr) : Option Nat := match i with
  | .invokevirtual z => some z
  | .invokespecial z => if z < 1000 then some z else none
  | .invokestatic z => if z < 1000 then some z else none
  | _ => none
def mm_at (M : mm_M) (pc : Nat) : Option (Nat × Nat × Instr) := (M.2.2.2.2.2.2.find? (fun e => e.1 == pc)).map (fun e => e.2)
/-- a value of one word -/
def mm_c1 (v : Value) : Bool := match v with
  | .int _ => true
  | .ref _ => true
  | .retAddr _ => true
  | _ => false
/-- how many values a call takes, its receiver too -/
def mm_na' (M : mm_M) : Nat := M.2.2.2.2.1.2.1 + (if M.2.2.2.2.1.2.2 then 0 else 1)
def mm_rc (M : mm_M) (h : mm_H) (As : List Value) : Bool := if M.2.2.2.2.1.2.2 then true else match As with
  | .ref b :: _ => decide (mm_k h b = M.2.2.2.2.1.1 + 1)
  | _ => false
/-- a method's code from a place on, with what calls do -/
def mm_ex (ms : List mm_M) (ro : mm_Ro) (call : Nat → List Value → mm_H → Option (Value × mm_H)) (M : mm_M) : Nat → Nat → List Value → List Value → mm_H → Option (Value × mm_H)
  | 0, _, _, _, _ => none
  | n + 1, pc, L, S, h => match mm_at M pc with
    | none => none
    | some (_, _, i) => match mm_rt M.2.2.2.1 i S with
      | some r => some (r, h)
      | none => match mm_ca i with
        | some z => match ms[z]? with
          | none => none
          | some Z => if mm_na' Z ≤ S.length ∧ S.length ≤ mm_na' Z + 8 ∧ (S.drop (mm_na' Z)).all mm_c1 = true ∧ mm_rc Z h (S.take (mm_na' Z)).reverse = true then (match call z (S.take (mm_na' Z)).reverse h with
            | none => none
            | some (r, h1) => mm_ex ms ro call M n (pc + 3) L (if Z.2.2.2.1 = none then S.drop (mm_na' Z) else r :: S.drop (mm_na' Z)) h1) else none
        | none => match mm_st ro i pc L S h with
          | none => none
          | some (pc', L', S', h') => mm_ex ms ro call M n pc' L' S' h'
/-- a method from its start: d calls deep at most, n steps in each -/
def mm_run (ms : List mm_M) (ro : mm_Ro) : Nat → Nat → Nat → List Value → mm_H → Option (Value × mm_H)
  | 0, _, _, _, _ => none
  | d + 1, n, z, As, h => match ms[z]? with
    | none => none
    | some Z => if As.length = mm_na' Z ∧ As.length ≤ Z.2.2.1 ∧ As.all mm_c1 = true then mm_ex ms ro (mm_run ms ro d n) Z n 0 (As ++ List.replicate (Z.2.2.1 - As.length) .null) [] h else none
end
section
def mm_c_Op_goesOn : List mm_I := [(0, 1, 0, .iload_n 0), (1, 2, 0, .bipush (13)), (3, 3, 0, .if_icmp .eq (19)), (6, 1, 0, .iload_n 0), (7, 2, 0, .bipush (16)), (9, 3, 0, .if_icmp .eq (13)), (12, 1, 0, .iload_n 0), (13, 2, 0, .bipush (17)), (15, 3, 0, .if_icmp .eq (7)), (18, 1, 0, .iconst (1)), (19, 3, 0, .goto (4)), (22, 1, 0, .iconst (0)), (23, 1, 0, .ireturn)]
abbrev mm_m_Op_goesOn : mm_M := (⟨"QualifierGate$Op", "goesOn", "(I)Z"⟩, prog_7_method_2_code, 1, some .boolean, (12, 1, true), (724, 723, 0, 90), mm_c_Op_goesOn)
def mm_c_Op_jumps : List mm_I := [(0, 1, 0, .iload_n 0), (1, 2, 0, .bipush (13)), (3, 3, 0, .if_icmp .eq (15)), (6, 1, 0, .iload_n 0), (7, 2, 0, .bipush (14)), (9, 3, 0, .if_icmp .eq (9)), (12, 1, 0, .iload_n 0), (13, 2, 0, .bipush (15)), (15, 3, 0, .if_icmp .ne (7)), (18, 1, 0, .iconst (1)), (19, 3, 0, .goto (4)), (22, 1, 0, .iconst (0)), (23, 1, 0, .ireturn)]
abbrev mm_m_Op_jumps : mm_M := (⟨"QualifierGate$Op", "jumps", "(I)Z"⟩, prog_7_method_3_code, 1, some .boolean, (12, 1, true), (697, 696, 0, 90), mm_c_Op_jumps)
def mm_c_Op_mayThrow : List mm_I := [(0, 1, 0, .iload_n 0), (1, 2, 0, .bipush (11)), (3, 3, 0, .if_icmp .eq (15)), (6, 1, 0, .iload_n 0), (7, 2, 0, .bipush (12)), (9, 3, 0, .if_icmp .eq (9)), (12, 1, 0, .iload_n 0), (13, 2, 0, .bipush (17)), (15, 3, 0, .if_icmp .ne (7)), (18, 1, 0, .iconst (1)), (19, 3, 0, .goto (4)), (22, 1, 0, .iconst (0)), (23, 1, 0, .ireturn)]
abbrev mm_m_Op_mayThrow : mm_M := (⟨"QualifierGate$Op", "mayThrow", "(I)Z"⟩, prog_7_method_4_code, 1, some .boolean, (12, 1, true), (727, 726, 0, 90), mm_c_Op_mayThrow)
def mm_c_Va_of : List mm_I := [(0, 1, 0, .iload_n 0), (1, 1, 0, .iload_n 1), (2, 1, 0, .iconst (1)), (3, 1, 0, .iadd), (4, 1, 0, .iconst (3)), (5, 1, 0, .ishl), (6, 1, 0, .ior), (7, 1, 0, .iload_n 2), (8, 3, 0, .ifCond .eq (7)), (11, 1, 0, .iconst (1)), (12, 3, 0, .goto (4)), (15, 1, 0, .iconst (0)), (16, 2, 0, .bipush (6)), (18, 1, 0, .ishl), (19, 1, 0, .ior), (20, 1, 0, .iload_n 3), (21, 2, 0, .bipush (7)), (23, 1, 0, .ishl), (24, 1, 0, .ior), (25, 1, 0, .ireturn)]
abbrev mm_m_Va_of : mm_M := (⟨"QualifierGate$Value", "of", "(IIZI)I"⟩, prog_11_method_2_code, 4, some .int, (11, 4, true), (578, 577, 0, 89), mm_c_Va_of)
def mm_c_Va_ofPlace : List mm_I := [(0, 1, 0, .aload_n 0), (1, 3, 11, .getfield 448), (4, 1, 0, .iconst (-1)), (5, 3, 0, .if_icmp .ne (16)), (8, 1, 0, .iconst (1)), (9, 1, 0, .iconst (-1)), (10, 1, 0, .iconst (0)), (11, 1, 0, .aload_n 0), (12, 3, 17, .getfield 450), (15, 3, 20, .invokestatic 3), (18, 3, 0, .goto (16)), (21, 1, 0, .iconst (3)), (22, 1, 0, .aload_n 0), (23, 3, 11, .getfield 448), (26, 1, 0, .iload_n 1), (27, 1, 0, .aload_n 0), (28, 3, 17, .getfield 450), (31, 3, 20, .invokestatic 3), (34, 1, 0, .ireturn)]
abbrev mm_m_Va_ofPlace : mm_M := (⟨"QualifierGate$Value", "ofPlace", "(LQualifierGate$Place;Z)I"⟩, prog_11_method_3_code, 2, some .int, (11, 2, true), (585, 584, 0, 89), mm_c_Va_ofPlace)
def mm_c_Va_kind : List mm_I := [(0, 1, 0, .iload_n 0), (1, 2, 0, .bipush (7)), (3, 1, 0, .iand), (4, 1, 0, .ireturn)]
abbrev mm_m_Va_kind : mm_M := (⟨"QualifierGate$Value", "kind", "(I)I"⟩, prog_11_method_4_code, 1, some .int, (11, 1, true), (657, 656, 0, 89), mm_c_Va_kind)
def mm_c_Va_classOf : List mm_I := [(0, 1, 0, .iload_n 0), (1, 1, 0, .iconst (3)), (2, 1, 0, .ishr), (3, 2, 0, .bipush (7)), (5, 1, 0, .iand), (6, 1, 0, .iconst (1)), (7, 1, 0, .isub), (8, 1, 0, .ireturn)]
abbrev mm_m_Va_classOf : mm_M := (⟨"QualifierGate$Value", "classOf", "(I)I"⟩, prog_11_method_5_code, 1, some .int, (11, 1, true), (660, 659, 0, 89), mm_c_Va_classOf)
def mm_c_Va_may : List mm_I := [(0, 1, 0, .iload_n 0), (1, 2, 0, .bipush (6)), (3, 1, 0, .ishr), (4, 1, 0, .iconst (1)), (5, 1, 0, .iand), (6, 3, 0, .ifCond .eq (7)), (9, 1, 0, .iconst (1)), (10, 3, 0, .goto (4)), (13, 1, 0, .iconst (0)), (14, 1, 0, .ireturn)]
abbrev mm_m_Va_may : mm_M := (⟨"QualifierGate$Value", "may", "(I)Z"⟩, prog_11_method_6_code, 1, some .boolean, (11, 1, true), (685, 684, 0, 89), mm_c_Va_may)
def mm_c_Va_marks : List mm_I := [(0, 1, 0, .iload_n 0), (1, 2, 0, .bipush (7)), (3, 1, 0, .ishr), (4, 2, 0, .bipush (15)), (6, 1, 0, .iand), (7, 1, 0, .ireturn)]
abbrev mm_m_Va_marks : mm_M := (⟨"QualifierGate$Value", "marks", "(I)I"⟩, prog_11_method_7_code, 1, some .int, (11, 1, true), (650, 649, 0, 89), mm_c_Va_marks)
def mm_c_Va_origin : List mm_I := [(0, 1, 0, .iload_n 0), (1, 2, 0, .bipush (11)), (3, 1, 0, .ishr), (4, 1, 0, .iconst (1)), (5, 1, 0, .isub), (6, 1, 0, .ireturn)]
abbrev mm_m_Va_origin : mm_M := (⟨"QualifierGate$Value", "origin", "(I)I"⟩, prog_11_method_8_code, 1, some .int, (11, 1, true), (642, 641, 0, 89), mm_c_Va_origin)
def mm_c_Va_withOrigin : List mm_I := [(0, 1, 0, .iload_n 0), (1, 3, 0, .sipush (2047)), (4, 1, 0, .iand), (5, 1, 0, .iload_n 1), (6, 1, 0, .iconst (1)), (7, 1, 0, .iadd), (8, 2, 0, .bipush (11)), (10, 1, 0, .ishl), (11, 1, 0, .ior), (12, 1, 0, .ireturn)]
abbrev mm_m_Va_withOrigin : mm_M := (⟨"QualifierGate$Value", "withOrigin", "(II)I"⟩, prog_11_method_9_code, 2, some .int, (11, 2, true), (630, 629, 0, 89), mm_c_Va_withOrigin)
def mm_c_Va_withKind : List mm_I := [(0, 1, 0, .iload_n 0), (1, 2, 0, .bipush (-64)), (3, 1, 0, .iand), (4, 1, 0, .iload_n 1), (5, 1, 0, .ior), (6, 1, 0, .iload_n 2), (7, 1, 0, .iconst (1)), (8, 1, 0, .iadd), (9, 1, 0, .iconst (3)), (10, 1, 0, .ishl), (11, 1, 0, .ior), (12, 1, 0, .ireturn)]
abbrev mm_m_Va_withKind : mm_M := (⟨"QualifierGate$Value", "withKind", "(III)I"⟩, prog_11_method_10_code, 3, some .int, (11, 3, true), (663, 662, 0, 89), mm_c_Va_withKind)
def mm_c_Va_notNull : List mm_I := [(0, 1, 0, .iload_n 0), (1, 2, 0, .bipush (-65)), (3, 1, 0, .iand), (4, 1, 0, .ireturn)]
abbrev mm_m_Va_notNull : mm_M := (⟨"QualifierGate$Value", "notNull", "(I)I"⟩, prog_11_method_11_code, 1, some .int, (11, 1, true), (694, 693, 0, 89), mm_c_Va_notNull)
def mm_c_Va_join : List mm_I := [(0, 1, 0, .iload_n 0), (1, 1, 0, .iload_n 1), (2, 3, 0, .if_icmp .ne (5)), (5, 1, 0, .iload_n 0), (6, 1, 0, .ireturn), (7, 1, 0, .iload_n 0), (8, 3, 24, .invokestatic 5), (11, 1, 0, .istore_n 3), (12, 1, 0, .iload_n 1), (13, 3, 24, .invokestatic 5), (16, 2, 0, .istore 4), (18, 1, 0, .iconst (0)), (19, 1, 0, .iconst (-1)), (20, 1, 0, .iload_n 0), (21, 3, 28, .invokestatic 7), (24, 3, 0, .ifCond .ne (10)), (27, 1, 0, .iload_n 1), (28, 3, 28, .invokestatic 7), (31, 3, 0, .ifCond .eq (7)), (34, 1, 0, .iconst (1)), (35, 3, 0, .goto (4)), (38, 1, 0, .iconst (0)), (39, 1, 0, .iload_n 0), (40, 3, 32, .invokestatic 8), (43, 1, 0, .iload_n 1), (44, 3, 32, .invokestatic 8), (47, 1, 0, .ior), (48, 3, 20, .invokestatic 3), (51, 2, 0, .istore 5), (53, 1, 0, .iload_n 0), (54, 3, 34, .invokestatic 9), (57, 1, 0, .iload_n 1), (58, 3, 34, .invokestatic 9), (61, 3, 0, .if_icmp .ne (14)), (64, 2, 0, .iload 5), (66, 1, 0, .iload_n 0), (67, 3, 34, .invokestatic 9), (70, 3, 37, .invokestatic 10), (73, 2, 0, .istore 5), (75, 1, 0, .iload_n 3), (76, 1, 0, .iconst (3)), (77, 3, 0, .if_icmp .ne (28)), (80, 2, 0, .iload 4), (82, 1, 0, .iconst (3)), (83, 3, 0, .if_icmp .ne (22)), (86, 2, 0, .iload 5), (88, 1, 0, .iconst (3)), (89, 1, 0, .aload_n 2), (90, 1, 0, .iload_n 0), (91, 3, 41, .invokestatic 6), (94, 1, 0, .iload_n 1), (95, 3, 41, .invokestatic 6), (98, 3, 44, .invokevirtual 36), (101, 3, 49, .invokestatic 11), (104, 1, 0, .ireturn), (105, 1, 0, .iload_n 3), (106, 2, 0, .iload 4), (108, 3, 0, .if_icmp .eq (14)), (111, 1, 0, .iload_n 3), (112, 1, 0, .iconst (3)), (113, 3, 0, .if_icmp .ne (20)), (116, 2, 0, .iload 4), (118, 1, 0, .iconst (2)), (119, 3, 0, .if_icmp .ne (14)), (122, 2, 0, .iload 5), (124, 1, 0, .iload_n 3), (125, 1, 0, .iload_n 0), (126, 3, 41, .invokestatic 6), (129, 3, 49, .invokestatic 11), (132, 1, 0, .ireturn), (133, 1, 0, .iload_n 3), (134, 1, 0, .iconst (2)), (135, 3, 0, .if_icmp .ne (22)), (138, 2, 0, .iload 4), (140, 1, 0, .iconst (3)), (141, 3, 0, .if_icmp .ne (16)), (144, 2, 0, .iload 5), (146, 1, 0, .iconst (3)), (147, 1, 0, .iload_n 1), (148, 3, 41, .invokestatic 6), (151, 3, 49, .invokestatic 11), (154, 3, 0, .goto (5)), (157, 2, 0, .iload 5), (159, 1, 0, .ireturn)]
abbrev mm_m_Va_join : mm_M := (⟨"QualifierGate$Value", "join", "(IILQualifierGate$Stock;)I"⟩, prog_11_method_12_code, 6, some .int, (11, 3, true), (710, 709, 0, 89), mm_c_Va_join)
def mm_c_Va_part : List mm_I := [(0, 1, 0, .iload_n 1), (1, 35, 0, .tableswitch (68) (0) (4) #[35, 40, 45, 58, 63]), (36, 1, 0, .iload_n 0), (37, 3, 24, .invokestatic 5), (40, 1, 0, .ireturn), (41, 1, 0, .iload_n 0), (42, 3, 41, .invokestatic 6), (45, 1, 0, .ireturn), (46, 1, 0, .iload_n 0), (47, 3, 28, .invokestatic 7), (50, 3, 0, .ifCond .eq (7)), (53, 1, 0, .iconst (1)), (54, 3, 0, .goto (4)), (57, 1, 0, .iconst (0)), (58, 1, 0, .ireturn), (59, 1, 0, .iload_n 0), (60, 3, 32, .invokestatic 8), (63, 1, 0, .ireturn), (64, 1, 0, .iload_n 0), (65, 3, 34, .invokestatic 9), (68, 1, 0, .ireturn), (69, 1, 0, .iconst (-1)), (70, 1, 0, .ireturn)]
abbrev mm_m_Va_part : mm_M := (⟨"QualifierGate$Value", "part", "(II)I"⟩, prog_11_method_13_code, 2, some .int, (11, 2, true), (835, 834, 0, 89), mm_c_Va_part)
def mm_c_Pl_init : List mm_I := [(0, 1, 0, .aload_n 0), (1, 3, 1, .invokespecial 1000), (4, 1, 0, .aload_n 0), (5, 1, 0, .iload_n 1), (6, 1, 0, .iload_n 2), (7, 1, 0, .iload_n 3), (8, 3, 7, .invokevirtual 16), (11, 1, 0, .return_)]
abbrev mm_m_Pl_init : mm_M := (⟨"QualifierGate$Place", "<init>", "(IZI)V"⟩, prog_8_method_1_code, 4, none, (7, 3, false), (361, 360, 0, 87), mm_c_Pl_init)
def mm_c_Pl_become : List mm_I := [(0, 1, 0, .aload_n 0), (1, 1, 0, .iload_n 1), (2, 3, 13, .putfield 448), (5, 1, 0, .aload_n 0), (6, 1, 0, .iload_n 2), (7, 3, 0, .ifCond .eq (11)), (10, 1, 0, .iload_n 1), (11, 3, 0, .ifCond .lt (7)), (14, 1, 0, .iconst (1)), (15, 3, 0, .goto (4)), (18, 1, 0, .iconst (0)), (19, 3, 17, .putfield 449), (22, 1, 0, .aload_n 0), (23, 1, 0, .iload_n 3), (24, 3, 21, .putfield 450), (27, 1, 0, .return_)]
abbrev mm_m_Pl_become : mm_M := (⟨"QualifierGate$Place", "become", "(IZI)V"⟩, prog_8_method_2_code, 4, none, (7, 3, false), (366, 364, 366, 87), mm_c_Pl_become)
def mm_c_Me_init : List mm_I := [(0, 1, 0, .aload_n 0), (1, 3, 3, .invokespecial 1000), (4, 1, 0, .aload_n 0), (5, 1, 0, .iconst (3)), (6, 3, 9, .anewarray 2), (9, 3, 11, .putfield 515), (12, 1, 0, .aload_n 0), (13, 3, 9, .new 7), (16, 1, 0, .dup), (17, 2, 0, .bipush (-2)), (19, 1, 0, .iconst (0)), (20, 1, 0, .iconst (0)), (21, 3, 17, .invokespecial 15), (24, 3, 20, .putfield 517), (27, 1, 0, .aload_n 0), (28, 1, 0, .iconst (-1)), (29, 3, 24, .putfield 518), (32, 1, 0, .aload_n 0), (33, 2, 0, .bipush (20)), (35, 2, 0, .newarray .int), (37, 3, 28, .putfield 519), (40, 1, 0, .aload_n 0), (41, 2, 0, .bipush (20)), (43, 2, 0, .newarray .int), (45, 3, 32, .putfield 520), (48, 1, 0, .aload_n 0), (49, 1, 0, .iconst (2)), (50, 2, 0, .newarray .int), (52, 3, 35, .putfield 522), (55, 1, 0, .aload_n 0), (56, 1, 0, .iconst (2)), (57, 2, 0, .newarray .int), (59, 3, 38, .putfield 523), (62, 1, 0, .aload_n 0), (63, 1, 0, .iconst (2)), (64, 2, 0, .newarray .int), (66, 3, 41, .putfield 524), (69, 1, 0, .aload_n 0), (70, 1, 0, .iload_n 1), (71, 3, 44, .putfield 512), (74, 1, 0, .aload_n 0), (75, 1, 0, .iload_n 2), (76, 3, 47, .putfield 513), (79, 1, 0, .aload_n 0), (80, 1, 0, .iload_n 3), (81, 3, 50, .putfield 514), (84, 1, 0, .return_)]
abbrev mm_m_Me_init : mm_M := (⟨"QualifierGate$Method", "<init>", "(IIZ)V"⟩, prog_6_method_1_code, 4, none, (8, 3, false), (403, 402, 0, 88), mm_c_Me_init)
def mm_c_Me_addParam : List mm_I := [(0, 1, 0, .aload_n 0), (1, 3, 11, .getfield 515), (4, 1, 0, .aload_n 0), (5, 3, 54, .getfield 516), (8, 1, 0, .aload_n 1), (9, 1, 0, .aastore), (10, 1, 0, .aload_n 0), (11, 1, 0, .dup), (12, 3, 54, .getfield 516), (15, 1, 0, .iconst (1)), (16, 1, 0, .iadd), (17, 3, 54, .putfield 516), (20, 1, 0, .aload_n 0), (21, 3, 54, .getfield 516), (24, 1, 0, .ireturn)]
abbrev mm_m_Me_addParam : mm_M := (⟨"QualifierGate$Method", "addParam", "(LQualifierGate$Place;)I"⟩, prog_6_method_2_code, 2, some .int, (8, 1, false), (505, 503, 505, 88), mm_c_Me_addParam)
def mm_c_Me_addInstruction : List mm_I := [(0, 1, 0, .aload_n 0), (1, 3, 28, .getfield 519), (4, 1, 0, .aload_n 0), (5, 3, 57, .getfield 521), (8, 1, 0, .iload_n 1), (9, 1, 0, .iastore), (10, 1, 0, .aload_n 0), (11, 3, 32, .getfield 520), (14, 1, 0, .aload_n 0), (15, 3, 57, .getfield 521), (18, 1, 0, .iload_n 2), (19, 1, 0, .iastore), (20, 1, 0, .aload_n 0), (21, 1, 0, .dup), (22, 3, 57, .getfield 521), (25, 1, 0, .iconst (1)), (26, 1, 0, .iadd), (27, 3, 57, .putfield 521), (30, 1, 0, .aload_n 0), (31, 3, 57, .getfield 521), (34, 1, 0, .ireturn)]
abbrev mm_m_Me_addInstruction : mm_M := (⟨"QualifierGate$Method", "addInstruction", "(II)I"⟩, prog_6_method_3_code, 3, some .int, (8, 2, false), (527, 525, 527, 88), mm_c_Me_addInstruction)
def mm_c_Me_addGuard : List mm_I := [(0, 1, 0, .aload_n 0), (1, 3, 35, .getfield 522), (4, 1, 0, .aload_n 0), (5, 3, 60, .getfield 525), (8, 1, 0, .iload_n 1), (9, 1, 0, .iastore), (10, 1, 0, .aload_n 0), (11, 3, 38, .getfield 523), (14, 1, 0, .aload_n 0), (15, 3, 60, .getfield 525), (18, 1, 0, .iload_n 2), (19, 1, 0, .iastore), (20, 1, 0, .aload_n 0), (21, 3, 41, .getfield 524), (24, 1, 0, .aload_n 0), (25, 3, 60, .getfield 525), (28, 1, 0, .iload_n 3), (29, 1, 0, .iastore), (30, 1, 0, .aload_n 0), (31, 1, 0, .dup), (32, 3, 60, .getfield 525), (35, 1, 0, .iconst (1)), (36, 1, 0, .iadd), (37, 3, 60, .putfield 525), (40, 1, 0, .aload_n 0), (41, 3, 60, .getfield 525), (44, 1, 0, .ireturn)]
abbrev mm_m_Me_addGuard : mm_M := (⟨"QualifierGate$Method", "addGuard", "(III)I"⟩, prog_6_method_4_code, 4, some .int, (8, 3, false), (535, 533, 535, 88), mm_c_Me_addGuard)
def mm_c_Me_clear : List mm_I := [(0, 1, 0, .aload_n 0), (1, 3, 57, .getfield 521), (4, 1, 0, .istore_n 1), (5, 1, 0, .aload_n 0), (6, 1, 0, .iconst (0)), (7, 3, 57, .putfield 521), (10, 1, 0, .aload_n 0), (11, 1, 0, .iconst (0)), (12, 3, 60, .putfield 525), (15, 1, 0, .iload_n 1), (16, 1, 0, .ireturn)]
abbrev mm_m_Me_clear : mm_M := (⟨"QualifierGate$Method", "clear", "()I"⟩, prog_6_method_5_code, 2, some .int, (8, 0, false), (543, 541, 543, 88), mm_c_Me_clear)
def mm_c_Me_isBuiltIn : List mm_I := [(0, 1, 0, .aload_n 0), (1, 3, 24, .getfield 518), (4, 1, 0, .iconst (-1)), (5, 3, 0, .if_icmp .eq (7)), (8, 1, 0, .iconst (1)), (9, 3, 0, .goto (4)), (12, 1, 0, .iconst (0)), (13, 1, 0, .ireturn)]
abbrev mm_m_Me_isBuiltIn : mm_M := (⟨"QualifierGate$Method", "isBuiltIn", "()Z"⟩, prog_6_method_6_code, 1, some .boolean, (8, 0, false), (555, 553, 555, 88), mm_c_Me_isBuiltIn)
def mm_c_Me_gives : List mm_I := [(0, 1, 0, .aload_n 0), (1, 3, 20, .getfield 517), (4, 3, 63, .getfield 448), (7, 2, 0, .bipush (-2)), (9, 3, 0, .if_icmp .eq (7)), (12, 1, 0, .iconst (1)), (13, 3, 0, .goto (4)), (16, 1, 0, .iconst (0)), (17, 1, 0, .ireturn)]
abbrev mm_m_Me_gives : mm_M := (⟨"QualifierGate$Method", "gives", "()Z"⟩, prog_6_method_7_code, 1, some .boolean, (8, 0, false), (563, 561, 563, 88), mm_c_Me_gives)
def mm_c_Me_takes : List mm_I := [(0, 1, 0, .aload_n 0), (1, 3, 54, .getfield 516), (4, 1, 0, .aload_n 0), (5, 3, 66, .invokevirtual 25), (8, 1, 0, .iadd), (9, 1, 0, .ireturn)]
abbrev mm_m_Me_takes : mm_M := (⟨"QualifierGate$Method", "takes", "()I"⟩, prog_6_method_8_code, 1, some .int, (8, 0, false), (606, 604, 606, 88), mm_c_Me_takes)
def mm_c_Me_firstParam : List mm_I := [(0, 1, 0, .aload_n 0), (1, 3, 50, .getfield 514), (4, 3, 0, .ifCond .eq (7)), (7, 1, 0, .iconst (0)), (8, 3, 0, .goto (4)), (11, 1, 0, .iconst (1)), (12, 1, 0, .ireturn)]
abbrev mm_m_Me_firstParam : mm_M := (⟨"QualifierGate$Method", "firstParam", "()I"⟩, prog_6_method_9_code, 1, some .int, (8, 0, false), (582, 580, 582, 88), mm_c_Me_firstParam)
def mm_c_Me_caughtAt : List mm_I := [(0, 1, 0, .iconst (0)), (1, 1, 0, .istore_n 2), (2, 1, 0, .iload_n 2), (3, 1, 0, .aload_n 0), (4, 3, 60, .getfield 525), (7, 3, 0, .if_icmp .ge (36)), (10, 1, 0, .aload_n 0), (11, 3, 35, .getfield 522), (14, 1, 0, .iload_n 2), (15, 1, 0, .iaload), (16, 1, 0, .iload_n 1), (17, 3, 0, .if_icmp .gt (20)), (20, 1, 0, .iload_n 1), (21, 1, 0, .aload_n 0), (22, 3, 38, .getfield 523), (25, 1, 0, .iload_n 2), (26, 1, 0, .iaload), (27, 3, 0, .if_icmp .gt (10)), (30, 1, 0, .aload_n 0), (31, 3, 41, .getfield 524), (34, 1, 0, .iload_n 2), (35, 1, 0, .iaload), (36, 1, 0, .ireturn), (37, 3, 0, .iinc 2 (1)), (40, 3, 0, .goto (-38)), (43, 1, 0, .iconst (-1)), (44, 1, 0, .ireturn)]
abbrev mm_m_Me_caughtAt : mm_M := (⟨"QualifierGate$Method", "caughtAt", "(I)I"⟩, prog_6_method_10_code, 3, some .int, (8, 1, false), (731, 729, 731, 88), mm_c_Me_caughtAt)
def mm_c_St_init : List mm_I := [(0, 1, 0, .aload_n 0), (1, 3, 3, .invokespecial 1000), (4, 1, 0, .aload_n 0), (5, 1, 0, .iconst (1)), (6, 3, 9, .putfield 64), (9, 1, 0, .aload_n 0), (10, 2, 0, .bipush (6)), (12, 2, 0, .newarray .int), (14, 3, 15, .putfield 65), (17, 1, 0, .aload_n 0), (18, 2, 0, .bipush (6)), (20, 2, 0, .newarray .int), (22, 3, 19, .putfield 66), (25, 1, 0, .aload_n 0), (26, 2, 0, .bipush (6)), (28, 2, 0, .newarray .boolean), (30, 3, 22, .putfield 67), (33, 1, 0, .aload_n 0), (34, 2, 0, .bipush (12)), (36, 2, 0, .newarray .int), (38, 3, 26, .putfield 70), (41, 1, 0, .aload_n 0), (42, 2, 0, .bipush (12)), (44, 3, 29, .anewarray 2), (47, 3, 31, .putfield 71), (50, 1, 0, .aload_n 0), (51, 2, 0, .bipush (10)), (53, 3, 35, .anewarray 3), (56, 3, 37, .putfield 73), (59, 1, 0, .aload_n 0), (60, 3, 15, .getfield 65), (63, 1, 0, .iconst (0)), (64, 1, 0, .iconst (-1)), (65, 1, 0, .iastore), (66, 1, 0, .aload_n 0), (67, 3, 19, .getfield 66), (70, 1, 0, .iconst (0)), (71, 1, 0, .iconst (1)), (72, 1, 0, .iastore), (73, 1, 0, .return_)]
abbrev mm_m_St_init : mm_M := (⟨"QualifierGate$Stock", "<init>", "()V"⟩, prog_10_method_1_code, 1, none, (1, 0, false), (105, 104, 0, 80), mm_c_St_init)
def mm_c_St_makeClass : List mm_I := [(0, 1, 0, .aload_n 0), (1, 3, 9, .getfield 64), (4, 1, 0, .istore_n 2), (5, 1, 0, .aload_n 0), (6, 3, 15, .getfield 65), (9, 1, 0, .iload_n 2), (10, 1, 0, .iload_n 1), (11, 1, 0, .iastore), (12, 1, 0, .aload_n 0), (13, 3, 19, .getfield 66), (16, 1, 0, .iload_n 2), (17, 1, 0, .aload_n 0), (18, 3, 19, .getfield 66), (21, 1, 0, .iload_n 1), (22, 1, 0, .iaload), (23, 1, 0, .iconst (1)), (24, 1, 0, .iload_n 2), (25, 1, 0, .ishl), (26, 1, 0, .ior), (27, 1, 0, .iastore), (28, 1, 0, .aload_n 0), (29, 1, 0, .dup), (30, 3, 9, .getfield 64), (33, 1, 0, .iconst (1)), (34, 1, 0, .iadd), (35, 3, 9, .putfield 64), (38, 1, 0, .iload_n 2), (39, 1, 0, .ireturn)]
abbrev mm_m_St_makeClass : mm_M := (⟨"QualifierGate$Stock", "makeClass", "(I)I"⟩, prog_10_method_2_code, 3, some .int, (1, 1, false), (347, 345, 347, 80), mm_c_St_makeClass)
def mm_c_St_makeField : List mm_I := [(0, 1, 0, .aload_n 0), (1, 3, 26, .getfield 70), (4, 1, 0, .aload_n 0), (5, 3, 41, .getfield 69), (8, 1, 0, .iload_n 1), (9, 1, 0, .iastore), (10, 1, 0, .aload_n 0), (11, 3, 31, .getfield 71), (14, 1, 0, .aload_n 0), (15, 3, 41, .getfield 69), (18, 1, 0, .aload_n 2), (19, 1, 0, .aastore), (20, 1, 0, .aload_n 0), (21, 1, 0, .dup), (22, 3, 41, .getfield 69), (25, 1, 0, .iconst (1)), (26, 1, 0, .iadd), (27, 3, 41, .putfield 69), (30, 1, 0, .aload_n 0), (31, 3, 41, .getfield 69), (34, 1, 0, .iconst (1)), (35, 1, 0, .isub), (36, 1, 0, .ireturn)]
abbrev mm_m_St_makeField : mm_M := (⟨"QualifierGate$Stock", "makeField", "(ILQualifierGate$Place;)I"⟩, prog_10_method_3_code, 3, some .int, (1, 2, false), (389, 387, 389, 80), mm_c_St_makeField)
def mm_c_St_makeMethod : List mm_I := [(0, 1, 0, .aload_n 0), (1, 3, 37, .getfield 73), (4, 1, 0, .aload_n 0), (5, 3, 44, .getfield 72), (8, 1, 0, .aload_n 1), (9, 1, 0, .aastore), (10, 1, 0, .aload_n 0), (11, 1, 0, .dup), (12, 3, 44, .getfield 72), (15, 1, 0, .iconst (1)), (16, 1, 0, .iadd), (17, 3, 44, .putfield 72), (20, 1, 0, .aload_n 0), (21, 3, 44, .getfield 72), (24, 1, 0, .iconst (1)), (25, 1, 0, .isub), (26, 1, 0, .ireturn)]
abbrev mm_m_St_makeMethod : mm_M := (⟨"QualifierGate$Stock", "makeMethod", "(LQualifierGate$Method;)I"⟩, prog_10_method_4_code, 2, some .int, (1, 1, false), (493, 491, 493, 80), mm_c_St_makeMethod)
def mm_c_St_isClass : List mm_I := [(0, 1, 0, .iload_n 1), (1, 1, 0, .aload_n 0), (2, 3, 9, .getfield 64), (5, 3, 47, .invokestatic 123), (8, 1, 0, .ireturn)]
abbrev mm_m_St_isClass : mm_M := (⟨"QualifierGate$Stock", "isClass", "(I)Z"⟩, prog_10_method_5_code, 2, some .boolean, (1, 1, false), (340, 338, 340, 80), mm_c_St_isClass)
def mm_c_St_isMethod : List mm_I := [(0, 1, 0, .iload_n 1), (1, 1, 0, .aload_n 0), (2, 3, 44, .getfield 72), (5, 3, 47, .invokestatic 123), (8, 1, 0, .ireturn)]
abbrev mm_m_St_isMethod : mm_M := (⟨"QualifierGate$Stock", "isMethod", "(I)Z"⟩, prog_10_method_6_code, 2, some .boolean, (1, 1, false), (501, 499, 501, 80), mm_c_St_isMethod)
def mm_c_St_isPlace : List mm_I := [(0, 1, 0, .iload_n 1), (1, 1, 0, .iconst (-1)), (2, 3, 0, .if_icmp .eq (11)), (5, 1, 0, .aload_n 0), (6, 1, 0, .iload_n 1), (7, 3, 51, .invokevirtual 31), (10, 3, 0, .ifCond .eq (16)), (13, 1, 0, .iload_n 2), (14, 2, 0, .bipush (16)), (16, 3, 47, .invokestatic 123), (19, 3, 0, .ifCond .eq (7)), (22, 1, 0, .iconst (1)), (23, 3, 0, .goto (4)), (26, 1, 0, .iconst (0)), (27, 1, 0, .ireturn)]
abbrev mm_m_St_isPlace : mm_M := (⟨"QualifierGate$Stock", "isPlace", "(II)Z"⟩, prog_10_method_7_code, 3, some .boolean, (1, 2, false), (355, 353, 355, 80), mm_c_St_isPlace)
def mm_c_St_isArgument : List mm_I := [(0, 1, 0, .iload_n 1), (1, 71, 0, .tableswitch (106) (2) (15) #[71, 71, 106, 106, 106, 78, 106, 84, 84, 93, 78, 99, 99, 99]), (72, 1, 0, .iload_n 2), (73, 2, 0, .bipush (6)), (75, 3, 47, .invokestatic 123), (78, 1, 0, .ireturn), (79, 1, 0, .aload_n 0), (80, 1, 0, .iload_n 2), (81, 3, 51, .invokevirtual 31), (84, 1, 0, .ireturn), (85, 1, 0, .iload_n 2), (86, 1, 0, .aload_n 0), (87, 3, 41, .getfield 69), (90, 3, 47, .invokestatic 123), (93, 1, 0, .ireturn), (94, 1, 0, .aload_n 0), (95, 1, 0, .iload_n 2), (96, 3, 55, .invokevirtual 32), (99, 1, 0, .ireturn), (100, 1, 0, .iload_n 2), (101, 2, 0, .bipush (20)), (103, 3, 47, .invokestatic 123), (106, 1, 0, .ireturn), (107, 1, 0, .iconst (1)), (108, 1, 0, .ireturn)]
abbrev mm_m_St_isArgument : mm_M := (⟨"QualifierGate$Stock", "isArgument", "(II)Z"⟩, prog_10_method_8_code, 3, some .boolean, (1, 2, false), (522, 520, 522, 80), mm_c_St_isArgument)
def mm_c_St_below : List mm_I := [(0, 1, 0, .aload_n 0), (1, 3, 19, .getfield 66), (4, 1, 0, .iload_n 1), (5, 1, 0, .iaload), (6, 1, 0, .iload_n 2), (7, 1, 0, .ishr), (8, 1, 0, .iconst (1)), (9, 1, 0, .iand), (10, 3, 0, .ifCond .eq (7)), (13, 1, 0, .iconst (1)), (14, 3, 0, .goto (4)), (17, 1, 0, .iconst (0)), (18, 1, 0, .ireturn)]
abbrev mm_m_St_below : mm_M := (⟨"QualifierGate$Stock", "below", "(II)Z"⟩, prog_10_method_9_code, 3, some .boolean, (1, 2, false), (571, 569, 571, 80), mm_c_St_below)
def mm_c_St_common : List mm_I := [(0, 1, 0, .aload_n 0), (1, 3, 19, .getfield 66), (4, 1, 0, .iload_n 1), (5, 1, 0, .iaload), (6, 1, 0, .aload_n 0), (7, 3, 19, .getfield 66), (10, 1, 0, .iload_n 2), (11, 1, 0, .iaload), (12, 1, 0, .iand), (13, 1, 0, .istore_n 3), (14, 1, 0, .iconst (5)), (15, 2, 0, .istore 4), (17, 2, 0, .iload 4), (19, 3, 0, .ifCond .le (21)), (22, 1, 0, .iload_n 3), (23, 2, 0, .iload 4), (25, 1, 0, .ishr), (26, 1, 0, .iconst (1)), (27, 1, 0, .iand), (28, 3, 0, .ifCond .eq (6)), (31, 2, 0, .iload 4), (33, 1, 0, .ireturn), (34, 3, 0, .iinc 4 (-1)), (37, 3, 0, .goto (-20)), (40, 1, 0, .iconst (0)), (41, 1, 0, .ireturn)]
abbrev mm_m_St_common : mm_M := (⟨"QualifierGate$Stock", "common", "(II)I"⟩, prog_10_method_10_code, 5, some .int, (1, 2, false), (720, 718, 720, 80), mm_c_St_common)
def mm_c_St_own : List mm_I := [(0, 1, 0, .iconst (0)), (1, 1, 0, .istore_n 3), (2, 1, 0, .iload_n 3), (3, 1, 0, .aload_n 0), (4, 3, 44, .getfield 72), (7, 3, 0, .if_icmp .ge (42)), (10, 1, 0, .aload_n 0), (11, 3, 37, .getfield 73), (14, 1, 0, .iload_n 3), (15, 1, 0, .aaload), (16, 3, 58, .getfield 512), (19, 1, 0, .iload_n 1), (20, 3, 0, .if_icmp .ne (23)), (23, 1, 0, .aload_n 0), (24, 3, 37, .getfield 73), (27, 1, 0, .iload_n 3), (28, 1, 0, .aaload), (29, 3, 61, .getfield 513), (32, 1, 0, .iload_n 2), (33, 3, 0, .if_icmp .ne (10)), (36, 1, 0, .aload_n 0), (37, 3, 37, .getfield 73), (40, 1, 0, .iload_n 3), (41, 1, 0, .aaload), (42, 1, 0, .areturn), (43, 3, 0, .iinc 3 (1)), (46, 3, 0, .goto (-44)), (49, 1, 0, .aconst_null), (50, 1, 0, .areturn)]
abbrev mm_m_St_own : mm_M := (⟨"QualifierGate$Stock", "own", "(II)LQualifierGate$Method;"⟩, prog_10_method_11_code, 4, some (.object "QualifierGate$Method"), (1, 2, false), (398, 396, 398, 80), mm_c_St_own)
def mm_c_St_nearest : List mm_I := [(0, 1, 0, .iload_n 1), (1, 1, 0, .istore_n 3), (2, 1, 0, .iconst (0)), (3, 2, 0, .istore 4), (5, 2, 0, .iload 4), (7, 2, 0, .bipush (6)), (9, 3, 0, .if_icmp .ge (37)), (12, 1, 0, .iload_n 3), (13, 1, 0, .iconst (-1)), (14, 3, 0, .if_icmp .eq (32)), (17, 1, 0, .aload_n 0), (18, 1, 0, .iload_n 3), (19, 1, 0, .iload_n 2), (20, 3, 64, .invokevirtual 37), (23, 2, 0, .astore 5), (25, 2, 0, .aload 5), (27, 3, 0, .ifnull (6)), (30, 2, 0, .aload 5), (32, 1, 0, .areturn), (33, 1, 0, .aload_n 0), (34, 3, 15, .getfield 65), (37, 1, 0, .iload_n 3), (38, 1, 0, .iaload), (39, 1, 0, .istore_n 3), (40, 3, 0, .iinc 4 (1)), (43, 3, 0, .goto (-38)), (46, 1, 0, .aconst_null), (47, 1, 0, .areturn)]
abbrev mm_m_St_nearest : mm_M := (⟨"QualifierGate$Stock", "nearest", "(II)LQualifierGate$Method;"⟩, prog_10_method_12_code, 6, some (.object "QualifierGate$Method"), (1, 2, false), (806, 804, 806, 80), mm_c_St_nearest)
def mm_c_St_pops : List mm_I := [(0, 1, 0, .aload_n 1), (1, 3, 68, .getfield 519), (4, 1, 0, .iload_n 2), (5, 1, 0, .iaload), (6, 26, 0, .lookupswitch (54) #[(11, 26), (16, 41)]), (32, 1, 0, .aload_n 0), (33, 3, 37, .getfield 73), (36, 1, 0, .aload_n 1), (37, 3, 71, .getfield 520), (40, 1, 0, .iload_n 2), (41, 1, 0, .iaload), (42, 1, 0, .aaload), (43, 3, 74, .invokevirtual 24), (46, 1, 0, .ireturn), (47, 1, 0, .aload_n 1), (48, 3, 78, .invokevirtual 23), (51, 3, 0, .ifCond .eq (7)), (54, 1, 0, .iconst (1)), (55, 3, 0, .goto (4)), (58, 1, 0, .iconst (0)), (59, 1, 0, .ireturn), (60, 3, 82, .getstatic 1), (63, 1, 0, .aload_n 1), (64, 3, 68, .getfield 519), (67, 1, 0, .iload_n 2), (68, 1, 0, .iaload), (69, 1, 0, .iaload), (70, 1, 0, .ireturn)]
abbrev mm_m_St_pops : mm_M := (⟨"QualifierGate$Stock", "pops", "(LQualifierGate$Method;I)I"⟩, prog_10_method_13_code, 3, some .int, (1, 2, false), (602, 600, 602, 80), mm_c_St_pops)
def mm_c_St_breaksStack : List mm_I := [(0, 1, 0, .aload_n 1), (1, 3, 68, .getfield 519), (4, 1, 0, .iload_n 2), (5, 1, 0, .iaload), (6, 2, 0, .istore 4), (8, 1, 0, .iload_n 3), (9, 1, 0, .aload_n 0), (10, 1, 0, .aload_n 1), (11, 1, 0, .iload_n 2), (12, 3, 87, .invokevirtual 39), (15, 1, 0, .isub), (16, 2, 0, .istore 5), (18, 2, 0, .iload 4), (20, 2, 0, .bipush (11)), (22, 3, 0, .if_icmp .ne (24)), (25, 1, 0, .aload_n 0), (26, 3, 37, .getfield 73), (29, 1, 0, .aload_n 1), (30, 3, 71, .getfield 520), (33, 1, 0, .iload_n 2), (34, 1, 0, .iaload), (35, 1, 0, .aaload), (36, 3, 78, .invokevirtual 23), (39, 3, 0, .ifCond .eq (7)), (42, 1, 0, .iconst (1)), (43, 3, 0, .goto (9)), (46, 3, 91, .getstatic 2), (49, 2, 0, .iload 4), (51, 1, 0, .iaload), (52, 2, 0, .istore 6), (54, 2, 0, .iload 5), (56, 3, 0, .ifCond .lt (12)), (59, 2, 0, .iload 5), (61, 2, 0, .iload 6), (63, 1, 0, .iadd), (64, 1, 0, .iconst (4)), (65, 3, 0, .if_icmp .le (7)), (68, 1, 0, .iconst (1)), (69, 3, 0, .goto (4)), (72, 1, 0, .iconst (0)), (73, 1, 0, .ireturn)]
abbrev mm_m_St_breaksStack : mm_M := (⟨"QualifierGate$Stock", "breaksStack", "(LQualifierGate$Method;II)Z"⟩, prog_10_method_14_code, 7, some .boolean, (1, 3, false), (598, 596, 598, 80), mm_c_St_breaksStack)
def mm_c_St_canStart : List mm_I := [(0, 1, 0, .aload_n 1), (1, 3, 94, .getfield 514), (4, 3, 0, .ifCond .eq (30)), (7, 1, 0, .aload_n 1), (8, 3, 98, .invokevirtual 22), (11, 3, 0, .ifCond .ne (23)), (14, 1, 0, .aload_n 0), (15, 3, 22, .getfield 67), (18, 1, 0, .aload_n 1), (19, 3, 58, .getfield 512), (22, 1, 0, .baload), (23, 3, 0, .ifCond .eq (11)), (26, 1, 0, .aload_n 1), (27, 3, 101, .getfield 516), (30, 1, 0, .iconst (2)), (31, 3, 0, .if_icmp .le (5)), (34, 1, 0, .iconst (0)), (35, 1, 0, .ireturn), (36, 1, 0, .iconst (0)), (37, 1, 0, .istore_n 2), (38, 1, 0, .iload_n 2), (39, 1, 0, .aload_n 1), (40, 3, 101, .getfield 516), (43, 3, 0, .if_icmp .ge (24)), (46, 1, 0, .aload_n 1), (47, 3, 104, .getfield 515), (50, 1, 0, .iload_n 2), (51, 1, 0, .aaload), (52, 3, 107, .getfield 448), (55, 1, 0, .iconst (-1)), (56, 3, 0, .if_icmp .eq (5)), (59, 1, 0, .iconst (0)), (60, 1, 0, .ireturn), (61, 3, 0, .iinc 2 (1)), (64, 3, 0, .goto (-26)), (67, 1, 0, .iconst (1)), (68, 1, 0, .ireturn)]
abbrev mm_m_St_canStart : mm_M := (⟨"QualifierGate$Stock", "canStart", "(LQualifierGate$Method;)Z"⟩, prog_10_method_15_code, 3, some .boolean, (1, 1, false), (851, 849, 851, 80), mm_c_St_canStart)
def mm_c_Fr_init : List mm_I := [(0, 1, 0, .aload_n 0), (1, 3, 3, .invokespecial 1000), (4, 1, 0, .aload_n 0), (5, 2, 0, .bipush (10)), (7, 2, 0, .newarray .int), (9, 3, 9, .putfield 192), (12, 1, 0, .aload_n 0), (13, 1, 0, .iconst (-1)), (14, 3, 15, .putfield 193), (17, 1, 0, .aload_n 0), (18, 1, 0, .iconst (-1)), (19, 3, 19, .putfield 194), (22, 1, 0, .return_)]
abbrev mm_m_Fr_init : mm_M := (⟨"QualifierGate$Frame", "<init>", "()V"⟩, prog_3_method_1_code, 1, none, (3, 0, false), (170, 169, 0, 82), mm_c_Fr_init)
def mm_c_Fr_become : List mm_I := [(0, 1, 0, .aload_n 1), (1, 3, 9, .getfield 192), (4, 1, 0, .iconst (0)), (5, 1, 0, .aload_n 0), (6, 3, 9, .getfield 192), (9, 1, 0, .iconst (0)), (10, 1, 0, .aload_n 0), (11, 3, 9, .getfield 192), (14, 1, 0, .arraylength), (15, 3, 22, .invokestatic 1001), (18, 1, 0, .aload_n 0), (19, 1, 0, .aload_n 1), (20, 3, 15, .getfield 193), (23, 3, 15, .putfield 193), (26, 1, 0, .aload_n 0), (27, 1, 0, .aload_n 1), (28, 3, 19, .getfield 194), (31, 3, 19, .putfield 194), (34, 1, 0, .aload_n 0), (35, 1, 0, .aload_n 1), (36, 3, 28, .getfield 195), (39, 3, 28, .putfield 195), (42, 1, 0, .return_)]
abbrev mm_m_Fr_become : mm_M := (⟨"QualifierGate$Frame", "become", "(LQualifierGate$Frame;)V"⟩, prog_3_method_2_code, 2, none, (3, 1, false), (616, 614, 616, 82), mm_c_Fr_become)
def mm_c_Fr_push : List mm_I := [(0, 1, 0, .aload_n 0), (1, 3, 9, .getfield 192), (4, 2, 0, .bipush (6)), (6, 1, 0, .aload_n 0), (7, 3, 15, .getfield 193), (10, 1, 0, .iadd), (11, 1, 0, .iload_n 1), (12, 1, 0, .iastore), (13, 1, 0, .aload_n 0), (14, 1, 0, .dup), (15, 3, 15, .getfield 193), (18, 1, 0, .iconst (1)), (19, 1, 0, .iadd), (20, 3, 15, .putfield 193), (23, 1, 0, .return_)]
abbrev mm_m_Fr_push : mm_M := (⟨"QualifierGate$Frame", "push", "(I)V"⟩, prog_3_method_3_code, 2, none, (3, 1, false), (627, 625, 627, 82), mm_c_Fr_push)
def mm_c_Fr_pop : List mm_I := [(0, 1, 0, .aload_n 0), (1, 1, 0, .dup), (2, 3, 15, .getfield 193), (5, 1, 0, .iconst (1)), (6, 1, 0, .isub), (7, 3, 15, .putfield 193), (10, 1, 0, .aload_n 0), (11, 3, 9, .getfield 192), (14, 2, 0, .bipush (6)), (16, 1, 0, .aload_n 0), (17, 3, 15, .getfield 193), (20, 1, 0, .iadd), (21, 1, 0, .iaload), (22, 1, 0, .ireturn)]
abbrev mm_m_Fr_pop : mm_M := (⟨"QualifierGate$Frame", "pop", "()I"⟩, prog_3_method_4_code, 1, some .int, (3, 0, false), (638, 636, 638, 82), mm_c_Fr_pop)
def mm_c_Fr_under : List mm_I := [(0, 1, 0, .aload_n 0), (1, 3, 9, .getfield 192), (4, 2, 0, .bipush (6)), (6, 1, 0, .aload_n 0), (7, 3, 15, .getfield 193), (10, 1, 0, .iadd), (11, 1, 0, .iconst (1)), (12, 1, 0, .isub), (13, 1, 0, .iload_n 1), (14, 1, 0, .isub), (15, 1, 0, .iaload), (16, 1, 0, .ireturn)]
abbrev mm_m_Fr_under : mm_M := (⟨"QualifierGate$Frame", "under", "(I)I"⟩, prog_3_method_5_code, 2, some .int, (3, 1, false), (646, 644, 646, 82), mm_c_Fr_under)
def mm_c_Fr_store : List mm_I := [(0, 1, 0, .aload_n 0), (1, 3, 9, .getfield 192), (4, 1, 0, .iload_n 1), (5, 1, 0, .aload_n 0), (6, 3, 31, .invokevirtual 45), (9, 1, 0, .iconst (-1)), (10, 3, 35, .invokestatic 10), (13, 1, 0, .iastore), (14, 2, 0, .bipush (6)), (16, 1, 0, .istore_n 2), (17, 1, 0, .iload_n 2), (18, 2, 0, .bipush (6)), (20, 1, 0, .aload_n 0), (21, 3, 15, .getfield 193), (24, 1, 0, .iadd), (25, 3, 0, .if_icmp .ge (38)), (28, 1, 0, .aload_n 0), (29, 3, 9, .getfield 192), (32, 1, 0, .iload_n 2), (33, 1, 0, .iaload), (34, 3, 41, .invokestatic 9), (37, 1, 0, .iload_n 1), (38, 3, 0, .if_icmp .ne (19)), (41, 1, 0, .aload_n 0), (42, 3, 9, .getfield 192), (45, 1, 0, .iload_n 2), (46, 1, 0, .aload_n 0), (47, 3, 9, .getfield 192), (50, 1, 0, .iload_n 2), (51, 1, 0, .iaload), (52, 1, 0, .iconst (-1)), (53, 3, 35, .invokestatic 10), (56, 1, 0, .iastore), (57, 3, 0, .iinc 2 (1)), (60, 3, 0, .goto (-43)), (63, 1, 0, .return_)]
abbrev mm_m_Fr_store : mm_M := (⟨"QualifierGate$Frame", "store", "(I)V"⟩, prog_3_method_6_code, 3, none, (3, 1, false), (634, 632, 634, 82), mm_c_Fr_store)
def mm_c_Fr_leaveSite : List mm_I := [(0, 1, 0, .iconst (0)), (1, 1, 0, .istore_n 3), (2, 1, 0, .iload_n 3), (3, 2, 0, .bipush (6)), (5, 1, 0, .aload_n 0), (6, 3, 15, .getfield 193), (9, 1, 0, .iadd), (10, 3, 0, .if_icmp .ge (69)), (13, 1, 0, .aload_n 0), (14, 3, 9, .getfield 192), (17, 1, 0, .iload_n 3), (18, 1, 0, .iaload), (19, 3, 45, .invokestatic 5), (22, 1, 0, .iconst (4)), (23, 3, 0, .if_icmp .ne (50)), (26, 1, 0, .aload_n 0), (27, 3, 9, .getfield 192), (30, 1, 0, .iload_n 3), (31, 1, 0, .iaload), (32, 3, 48, .invokestatic 6), (35, 2, 0, .istore 4), (37, 1, 0, .aload_n 0), (38, 3, 9, .getfield 192), (41, 1, 0, .iload_n 3), (42, 1, 0, .iload_n 1), (43, 3, 0, .ifCond .eq (18)), (46, 1, 0, .aload_n 0), (47, 3, 9, .getfield 192), (50, 1, 0, .iload_n 3), (51, 1, 0, .iaload), (52, 1, 0, .iconst (3)), (53, 2, 0, .iload 4), (55, 3, 51, .invokestatic 11), (58, 3, 0, .goto (14)), (61, 1, 0, .aload_n 0), (62, 3, 9, .getfield 192), (65, 1, 0, .iload_n 3), (66, 1, 0, .iaload), (67, 1, 0, .iconst (0)), (68, 1, 0, .iconst (-1)), (69, 3, 51, .invokestatic 11), (72, 1, 0, .iastore), (73, 3, 0, .iinc 3 (1)), (76, 3, 0, .goto (-74)), (79, 1, 0, .aload_n 0), (80, 1, 0, .iload_n 2), (81, 3, 19, .putfield 194), (84, 1, 0, .aload_n 0), (85, 1, 0, .iconst (0)), (86, 3, 28, .putfield 195), (89, 1, 0, .return_)]
abbrev mm_m_Fr_leaveSite : mm_M := (⟨"QualifierGate$Frame", "leaveSite", "(ZI)V"⟩, prog_3_method_7_code, 5, none, (3, 2, false), (654, 652, 654, 82), mm_c_Fr_leaveSite)
def mm_c_Fr_join : List mm_I := [(0, 1, 0, .aload_n 0), (1, 3, 15, .getfield 193), (4, 1, 0, .iconst (-1)), (5, 3, 0, .if_icmp .ne (14)), (8, 1, 0, .aload_n 0), (9, 1, 0, .aload_n 1), (10, 3, 55, .invokevirtual 43), (13, 1, 0, .aload_n 0), (14, 1, 0, .iconst (1)), (15, 3, 59, .putfield 196), (18, 1, 0, .return_), (19, 1, 0, .aload_n 0), (20, 3, 15, .getfield 193), (23, 2, 0, .bipush (-2)), (25, 3, 0, .if_icmp .ne (4)), (28, 1, 0, .return_), (29, 1, 0, .aload_n 1), (30, 3, 15, .getfield 193), (33, 1, 0, .aload_n 0), (34, 3, 15, .getfield 193), (37, 3, 0, .if_icmp .eq (15)), (40, 1, 0, .aload_n 0), (41, 2, 0, .bipush (-2)), (43, 3, 15, .putfield 193), (46, 1, 0, .aload_n 0), (47, 1, 0, .iconst (1)), (48, 3, 59, .putfield 196), (51, 1, 0, .return_), (52, 1, 0, .aload_n 0), (53, 3, 19, .getfield 194), (56, 1, 0, .istore_n 3), (57, 1, 0, .aload_n 0), (58, 3, 28, .getfield 195), (61, 2, 0, .istore 4), (63, 1, 0, .aload_n 0), (64, 3, 19, .getfield 194), (67, 1, 0, .aload_n 1), (68, 3, 19, .getfield 194), (71, 3, 0, .if_icmp .ne (19)), (74, 1, 0, .aload_n 0), (75, 1, 0, .aload_n 0), (76, 3, 28, .getfield 195), (79, 1, 0, .aload_n 1), (80, 3, 28, .getfield 195), (83, 1, 0, .iand), (84, 3, 28, .putfield 195), (87, 3, 0, .goto (9)), (90, 1, 0, .aload_n 0), (91, 1, 0, .iconst (0)), (92, 1, 0, .iconst (-1)), (93, 3, 63, .invokevirtual 48), (96, 1, 0, .aload_n 0), (97, 1, 0, .aload_n 0), (98, 3, 59, .getfield 196), (101, 3, 0, .ifCond .ne (20)), (104, 1, 0, .aload_n 0), (105, 3, 19, .getfield 194), (108, 1, 0, .iload_n 3), (109, 3, 0, .if_icmp .ne (12)), (112, 1, 0, .aload_n 0), (113, 3, 28, .getfield 195), (116, 2, 0, .iload 4), (118, 3, 0, .if_icmp .eq (7)), (121, 1, 0, .iconst (1)), (122, 3, 0, .goto (4)), (125, 1, 0, .iconst (0)), (126, 3, 59, .putfield 196), (129, 1, 0, .iconst (0)), (130, 2, 0, .istore 5), (132, 2, 0, .iload 5), (134, 2, 0, .bipush (6)), (136, 1, 0, .aload_n 0), (137, 3, 15, .getfield 193), (140, 1, 0, .iadd), (141, 3, 0, .if_icmp .ge (66)), (144, 1, 0, .aload_n 0), (145, 3, 9, .getfield 192), (148, 2, 0, .iload 5), (150, 1, 0, .iaload), (151, 1, 0, .aload_n 1), (152, 3, 9, .getfield 192), (155, 2, 0, .iload 5), (157, 1, 0, .iaload), (158, 1, 0, .aload_n 2), (159, 3, 67, .invokestatic 13), (162, 2, 0, .istore 6), (164, 1, 0, .aload_n 0), (165, 1, 0, .aload_n 0), (166, 3, 59, .getfield 196), (169, 3, 0, .ifCond .ne (15)), (172, 2, 0, .iload 6), (174, 1, 0, .aload_n 0), (175, 3, 9, .getfield 192), (178, 2, 0, .iload 5), (180, 1, 0, .iaload), (181, 3, 0, .if_icmp .eq (7)), (184, 1, 0, .iconst (1)), (185, 3, 0, .goto (4)), (188, 1, 0, .iconst (0)), (189, 3, 59, .putfield 196), (192, 1, 0, .aload_n 0), (193, 3, 9, .getfield 192), (196, 2, 0, .iload 5), (198, 2, 0, .iload 6), (200, 1, 0, .iastore), (201, 3, 0, .iinc 5 (1)), (204, 3, 0, .goto (-72)), (207, 1, 0, .return_)]
abbrev mm_m_Fr_join : mm_M := (⟨"QualifierGate$Frame", "join", "(LQualifierGate$Frame;LQualifierGate$Stock;)V"⟩, prog_3_method_8_code, 7, none, (3, 2, false), (705, 703, 705, 82), mm_c_Fr_join)
def mm_c_Ru_init : List mm_I := [(0, 1, 0, .aload_n 0), (1, 3, 3, .invokespecial 1000), (4, 1, 0, .aload_n 0), (5, 1, 0, .aload_n 1), (6, 3, 9, .putfield 256), (9, 1, 0, .return_)]
abbrev mm_m_Ru_init : mm_M := (⟨"QualifierGate$Rules", "<init>", "(LQualifierGate$Stock;)V"⟩, prog_9_method_1_code, 2, none, (4, 1, false), (203, 202, 0, 83), mm_c_Ru_init)
def mm_c_Ru_wayError : List mm_I := [(0, 1, 0, .aload_n 3), (1, 3, 15, .getfield 193), (4, 1, 0, .iconst (-1)), (5, 3, 0, .if_icmp .ne (5)), (8, 1, 0, .iconst (0)), (9, 1, 0, .ireturn), (10, 1, 0, .aload_n 0), (11, 1, 0, .aload_n 1), (12, 1, 0, .iload_n 2), (13, 3, 21, .invokevirtual 52), (16, 3, 0, .ifCond .eq (5)), (19, 1, 0, .iconst (1)), (20, 1, 0, .ireturn), (21, 1, 0, .aload_n 3), (22, 3, 15, .getfield 193), (25, 2, 0, .bipush (-2)), (27, 3, 0, .if_icmp .ne (5)), (30, 1, 0, .iconst (2)), (31, 1, 0, .ireturn), (32, 1, 0, .aload_n 0), (33, 3, 9, .getfield 256), (36, 1, 0, .aload_n 1), (37, 1, 0, .iload_n 2), (38, 1, 0, .aload_n 3), (39, 3, 15, .getfield 193), (42, 3, 25, .invokevirtual 40), (45, 3, 0, .ifCond .eq (7)), (48, 1, 0, .iconst (3)), (49, 3, 0, .goto (4)), (52, 1, 0, .iconst (0)), (53, 1, 0, .ireturn)]
abbrev mm_m_Ru_wayError : mm_M := (⟨"QualifierGate$Rules", "wayError", "(LQualifierGate$Method;ILQualifierGate$Frame;)I"⟩, prog_9_method_2_code, 4, some .int, (4, 3, false), (739, 737, 739, 83), mm_c_Ru_wayError)
def mm_c_Ru_leadsAway : List mm_I := [(0, 1, 0, .aload_n 1), (1, 3, 31, .getfield 519), (4, 1, 0, .iload_n 2), (5, 1, 0, .iaload), (6, 1, 0, .istore_n 3), (7, 1, 0, .iload_n 3), (8, 3, 37, .invokestatic 0), (11, 3, 0, .ifCond .eq (17)), (14, 1, 0, .iload_n 2), (15, 1, 0, .iconst (1)), (16, 1, 0, .iadd), (17, 1, 0, .aload_n 1), (18, 3, 43, .getfield 521), (21, 3, 0, .if_icmp .lt (7)), (24, 1, 0, .iconst (1)), (25, 3, 0, .goto (4)), (28, 1, 0, .iconst (0)), (29, 2, 0, .istore 4), (31, 1, 0, .iload_n 3), (32, 3, 46, .invokestatic 1), (35, 3, 0, .ifCond .eq (20)), (38, 1, 0, .aload_n 1), (39, 3, 49, .getfield 520), (42, 1, 0, .iload_n 2), (43, 1, 0, .iaload), (44, 1, 0, .aload_n 1), (45, 3, 43, .getfield 521), (48, 3, 0, .if_icmp .lt (7)), (51, 1, 0, .iconst (1)), (52, 3, 0, .goto (4)), (55, 1, 0, .iconst (0)), (56, 2, 0, .istore 5), (58, 2, 0, .iload 4), (60, 3, 0, .ifCond .ne (27)), (63, 2, 0, .iload 5), (65, 3, 0, .ifCond .ne (22)), (68, 1, 0, .iload_n 3), (69, 3, 52, .invokestatic 2), (72, 3, 0, .ifCond .eq (19)), (75, 1, 0, .aload_n 1), (76, 1, 0, .iload_n 2), (77, 3, 55, .invokevirtual 26), (80, 1, 0, .aload_n 1), (81, 3, 43, .getfield 521), (84, 3, 0, .if_icmp .lt (7)), (87, 1, 0, .iconst (1)), (88, 3, 0, .goto (4)), (91, 1, 0, .iconst (0)), (92, 1, 0, .ireturn)]
abbrev mm_m_Ru_leadsAway : mm_M := (⟨"QualifierGate$Rules", "leadsAway", "(LQualifierGate$Method;I)Z"⟩, prog_9_method_3_code, 6, some .boolean, (4, 2, false), (743, 742, 13, 83), mm_c_Ru_leadsAway)
def mm_c_Ru_valueError : List mm_I := [(0, 1, 0, .aload_n 1), (1, 3, 49, .getfield 520), (4, 1, 0, .iload_n 2), (5, 1, 0, .iaload), (6, 2, 0, .istore 4), (8, 1, 0, .aload_n 1), (9, 3, 31, .getfield 519), (12, 1, 0, .iload_n 2), (13, 1, 0, .iaload), (14, 62, 0, .tableswitch (235) (6) (17) #[62, 235, 91, 105, 125, 167, 183, 235, 82, 183, 197, 222]), (76, 1, 0, .aload_n 3), (77, 1, 0, .iconst (0)), (78, 3, 59, .invokevirtual 46), (81, 3, 62, .invokestatic 55), (84, 1, 0, .aload_n 3), (85, 1, 0, .iconst (1)), (86, 3, 59, .invokevirtual 46), (89, 3, 62, .invokestatic 55), (92, 3, 65, .invokestatic 54), (95, 1, 0, .ireturn), (96, 1, 0, .aload_n 3), (97, 1, 0, .iconst (0)), (98, 3, 59, .invokevirtual 46), (101, 3, 62, .invokestatic 55), (104, 1, 0, .ireturn), (105, 1, 0, .aload_n 0), (106, 1, 0, .aload_n 3), (107, 1, 0, .iconst (0)), (108, 3, 59, .invokevirtual 46), (111, 1, 0, .aload_n 3), (112, 3, 69, .getfield 195), (115, 3, 72, .invokevirtual 61), (118, 1, 0, .ireturn), (119, 1, 0, .aload_n 0), (120, 1, 0, .aload_n 3), (121, 1, 0, .iconst (0)), (122, 3, 59, .invokevirtual 46), (125, 1, 0, .aload_n 0), (126, 3, 9, .getfield 256), (129, 3, 75, .getfield 70), (132, 2, 0, .iload 4), (134, 1, 0, .iaload), (135, 3, 78, .invokevirtual 58), (138, 1, 0, .ireturn), (139, 1, 0, .aload_n 0), (140, 1, 0, .aload_n 3), (141, 1, 0, .iconst (0)), (142, 3, 59, .invokevirtual 46), (145, 1, 0, .aload_n 0), (146, 3, 9, .getfield 256), (149, 3, 81, .getfield 71), (152, 2, 0, .iload 4), (154, 1, 0, .aaload), (155, 3, 85, .invokevirtual 59), (158, 1, 0, .aload_n 0), (159, 1, 0, .aload_n 3), (160, 1, 0, .iconst (1)), (161, 3, 59, .invokevirtual 46), (164, 1, 0, .aload_n 0), (165, 3, 9, .getfield 256), (168, 3, 75, .getfield 70), (171, 2, 0, .iload 4), (173, 1, 0, .iaload), (174, 3, 78, .invokevirtual 58), (177, 3, 65, .invokestatic 54), (180, 1, 0, .ireturn), (181, 1, 0, .aload_n 0), (182, 1, 0, .aload_n 0), (183, 3, 9, .getfield 256), (186, 3, 89, .getfield 73), (189, 2, 0, .iload 4), (191, 1, 0, .aaload), (192, 1, 0, .aload_n 3), (193, 3, 93, .invokevirtual 60), (196, 1, 0, .ireturn), (197, 1, 0, .aload_n 0), (198, 1, 0, .aload_n 3), (199, 1, 0, .iconst (0)), (200, 3, 59, .invokevirtual 46), (203, 1, 0, .iconst (0)), (204, 1, 0, .iconst (1)), (205, 2, 0, .bipush (15)), (207, 3, 97, .invokevirtual 57), (210, 1, 0, .ireturn), (211, 1, 0, .aload_n 1), (212, 3, 101, .invokevirtual 23), (215, 3, 0, .ifCond .eq (19)), (218, 1, 0, .aload_n 0), (219, 1, 0, .aload_n 3), (220, 1, 0, .iconst (0)), (221, 3, 59, .invokevirtual 46), (224, 1, 0, .aload_n 1), (225, 3, 105, .getfield 517), (228, 3, 85, .invokevirtual 59), (231, 3, 0, .goto (4)), (234, 1, 0, .iconst (0)), (235, 1, 0, .ireturn), (236, 1, 0, .aload_n 0), (237, 1, 0, .aload_n 3), (238, 1, 0, .iconst (0)), (239, 3, 59, .invokevirtual 46), (242, 1, 0, .iconst (0)), (243, 1, 0, .iconst (0)), (244, 1, 0, .iconst (0)), (245, 3, 97, .invokevirtual 57), (248, 1, 0, .ireturn), (249, 1, 0, .iconst (0)), (250, 1, 0, .ireturn)]
abbrev mm_m_Ru_valueError : mm_M := (⟨"QualifierGate$Rules", "valueError", "(LQualifierGate$Method;ILQualifierGate$Frame;)I"⟩, prog_9_method_4_code, 5, some .int, (4, 3, false), (752, 750, 752, 83), mm_c_Ru_valueError)
def mm_c_Ru_first : List mm_I := [(0, 1, 0, .iload_n 0), (1, 3, 0, .ifCond .eq (7)), (4, 1, 0, .iload_n 1), (5, 3, 0, .ifCond .ne (9)), (8, 1, 0, .iload_n 0), (9, 1, 0, .iload_n 1), (10, 1, 0, .iadd), (11, 3, 0, .goto (8)), (14, 1, 0, .iload_n 0), (15, 1, 0, .iload_n 1), (16, 3, 109, .invokestatic 1003), (19, 1, 0, .ireturn)]
abbrev mm_m_Ru_first : mm_M := (⟨"QualifierGate$Rules", "first", "(II)I"⟩, prog_9_method_5_code, 2, some .int, (4, 2, true), (760, 759, 0, 83), mm_c_Ru_first)
def mm_c_Ru_intError : List mm_I := [(0, 1, 0, .iload_n 0), (1, 3, 114, .invokestatic 5), (4, 1, 0, .iconst (1)), (5, 3, 0, .if_icmp .ne (7)), (8, 1, 0, .iconst (0)), (9, 3, 0, .goto (4)), (12, 1, 0, .iconst (4)), (13, 1, 0, .ireturn)]
abbrev mm_m_Ru_intError : mm_M := (⟨"QualifierGate$Rules", "intError", "(I)I"⟩, prog_9_method_6_code, 1, some .int, (4, 1, true), (756, 755, 0, 83), mm_c_Ru_intError)
def mm_c_Ru_isReference : List mm_I := [(0, 1, 0, .iload_n 1), (1, 3, 114, .invokestatic 5), (4, 1, 0, .istore_n 3), (5, 1, 0, .iload_n 3), (6, 1, 0, .iconst (2)), (7, 3, 0, .if_icmp .eq (28)), (10, 1, 0, .iload_n 3), (11, 1, 0, .iconst (3)), (12, 3, 0, .if_icmp .eq (8)), (15, 1, 0, .iload_n 3), (16, 1, 0, .iconst (4)), (17, 3, 0, .if_icmp .ne (22)), (20, 1, 0, .aload_n 0), (21, 3, 9, .getfield 256), (24, 1, 0, .iload_n 1), (25, 3, 119, .invokestatic 6), (28, 1, 0, .iload_n 2), (29, 3, 122, .invokevirtual 35), (32, 3, 0, .ifCond .eq (7)), (35, 1, 0, .iconst (1)), (36, 3, 0, .goto (4)), (39, 1, 0, .iconst (0)), (40, 1, 0, .ireturn)]
abbrev mm_m_Ru_isReference : mm_M := (⟨"QualifierGate$Rules", "isReference", "(II)Z"⟩, prog_9_method_7_code, 4, some .boolean, (4, 2, false), (776, 775, 16, 83), mm_c_Ru_isReference)
def mm_c_Ru_referenceError : List mm_I := [(0, 1, 0, .aload_n 0), (1, 1, 0, .iload_n 1), (2, 1, 0, .iload_n 2), (3, 3, 126, .invokevirtual 56), (6, 3, 0, .ifCond .ne (5)), (9, 1, 0, .iconst (4)), (10, 1, 0, .ireturn), (11, 1, 0, .iload_n 1), (12, 3, 114, .invokestatic 5), (15, 1, 0, .iconst (4)), (16, 3, 0, .if_icmp .ne (5)), (19, 1, 0, .iconst (5)), (20, 1, 0, .ireturn), (21, 1, 0, .iload_n 1), (22, 3, 129, .invokestatic 7), (25, 3, 0, .ifCond .eq (10)), (28, 1, 0, .iload_n 3), (29, 3, 0, .ifCond .ne (6)), (32, 2, 0, .bipush (6)), (34, 1, 0, .ireturn), (35, 1, 0, .iload_n 1), (36, 3, 132, .invokestatic 8), (39, 2, 0, .iload 4), (41, 1, 0, .iconst (-1)), (42, 1, 0, .ixor), (43, 1, 0, .iand), (44, 3, 0, .ifCond .eq (8)), (47, 2, 0, .bipush (7)), (49, 3, 0, .goto (4)), (52, 1, 0, .iconst (0)), (53, 1, 0, .ireturn)]
abbrev mm_m_Ru_referenceError : mm_M := (⟨"QualifierGate$Rules", "referenceError", "(IIZI)I"⟩, prog_9_method_8_code, 5, some .int, (4, 4, false), (785, 784, 18, 83), mm_c_Ru_referenceError)
def mm_c_Ru_holderError : List mm_I := [(0, 1, 0, .aload_n 0), (1, 1, 0, .iload_n 1), (2, 1, 0, .iload_n 2), (3, 3, 126, .invokevirtual 56), (6, 3, 0, .ifCond .ne (5)), (9, 1, 0, .iconst (4)), (10, 1, 0, .ireturn), (11, 1, 0, .iload_n 1), (12, 3, 129, .invokestatic 7), (15, 3, 0, .ifCond .eq (8)), (18, 2, 0, .bipush (6)), (20, 3, 0, .goto (4)), (23, 1, 0, .iconst (0)), (24, 1, 0, .ireturn)]
abbrev mm_m_Ru_holderError : mm_M := (⟨"QualifierGate$Rules", "holderError", "(II)I"⟩, prog_9_method_9_code, 3, some .int, (4, 2, false), (772, 771, 15, 83), mm_c_Ru_holderError)
def mm_c_Ru_comingError : List mm_I := [(0, 1, 0, .aload_n 2), (1, 3, 135, .getfield 448), (4, 1, 0, .iconst (-1)), (5, 3, 0, .if_icmp .eq (21)), (8, 1, 0, .aload_n 0), (9, 1, 0, .iload_n 1), (10, 1, 0, .aload_n 2), (11, 3, 135, .getfield 448), (14, 1, 0, .aload_n 2), (15, 3, 140, .getfield 449), (18, 1, 0, .aload_n 2), (19, 3, 143, .getfield 450), (22, 3, 97, .invokevirtual 57), (25, 1, 0, .ireturn), (26, 1, 0, .iload_n 1), (27, 3, 114, .invokestatic 5), (30, 1, 0, .iconst (1)), (31, 3, 0, .if_icmp .eq (5)), (34, 1, 0, .iconst (4)), (35, 1, 0, .ireturn), (36, 1, 0, .iload_n 1), (37, 3, 132, .invokestatic 8), (40, 1, 0, .aload_n 2), (41, 3, 143, .getfield 450), (44, 1, 0, .iconst (-1)), (45, 1, 0, .ixor), (46, 1, 0, .iand), (47, 3, 0, .ifCond .eq (8)), (50, 2, 0, .bipush (7)), (52, 3, 0, .goto (4)), (55, 1, 0, .iconst (0)), (56, 1, 0, .ireturn)]
abbrev mm_m_Ru_comingError : mm_M := (⟨"QualifierGate$Rules", "comingError", "(ILQualifierGate$Place;)I"⟩, prog_9_method_10_code, 3, some .int, (4, 2, false), (781, 780, 17, 83), mm_c_Ru_comingError)
def mm_c_Ru_callError : List mm_I := [(0, 1, 0, .iconst (0)), (1, 1, 0, .istore_n 3), (2, 1, 0, .iconst (0)), (3, 2, 0, .istore 4), (5, 2, 0, .iload 4), (7, 1, 0, .aload_n 1), (8, 3, 145, .getfield 516), (11, 3, 0, .if_icmp .ge (42)), (14, 1, 0, .aload_n 2), (15, 1, 0, .aload_n 1), (16, 3, 145, .getfield 516), (19, 1, 0, .iconst (1)), (20, 1, 0, .isub), (21, 2, 0, .iload 4), (23, 1, 0, .isub), (24, 3, 59, .invokevirtual 46), (27, 2, 0, .istore 5), (29, 1, 0, .iload_n 3), (30, 1, 0, .aload_n 0), (31, 2, 0, .iload 5), (33, 1, 0, .aload_n 1), (34, 3, 148, .getfield 515), (37, 2, 0, .iload 4), (39, 1, 0, .aaload), (40, 3, 85, .invokevirtual 59), (43, 3, 65, .invokestatic 54), (46, 1, 0, .istore_n 3), (47, 3, 0, .iinc 4 (1)), (50, 3, 0, .goto (-45)), (53, 1, 0, .aload_n 1), (54, 3, 151, .getfield 514), (57, 3, 0, .ifCond .eq (5)), (60, 1, 0, .iload_n 3), (61, 1, 0, .ireturn), (62, 1, 0, .iload_n 3), (63, 1, 0, .aload_n 0), (64, 1, 0, .aload_n 2), (65, 1, 0, .aload_n 1), (66, 3, 145, .getfield 516), (69, 3, 59, .invokevirtual 46), (72, 1, 0, .aload_n 1), (73, 3, 154, .getfield 512), (76, 1, 0, .iconst (0)), (77, 1, 0, .iconst (0)), (78, 3, 97, .invokevirtual 57), (81, 3, 65, .invokestatic 54), (84, 1, 0, .ireturn)]
abbrev mm_m_Ru_callError : mm_M := (⟨"QualifierGate$Rules", "callError", "(LQualifierGate$Method;LQualifierGate$Frame;)I"⟩, prog_9_method_11_code, 6, some .int, (4, 2, false), (790, 789, 19, 83), mm_c_Ru_callError)
def mm_c_Ru_builtError : List mm_I := [(0, 1, 0, .iload_n 1), (1, 3, 114, .invokestatic 5), (4, 1, 0, .iconst (4)), (5, 3, 0, .if_icmp .eq (5)), (8, 1, 0, .iconst (4)), (9, 1, 0, .ireturn), (10, 1, 0, .iconst (0)), (11, 1, 0, .istore_n 3), (12, 1, 0, .iload_n 3), (13, 1, 0, .aload_n 0), (14, 3, 9, .getfield 256), (17, 3, 157, .getfield 69), (20, 3, 0, .if_icmp .ge (82)), (23, 1, 0, .aload_n 0), (24, 3, 9, .getfield 256), (27, 3, 81, .getfield 71), (30, 1, 0, .iload_n 3), (31, 1, 0, .aaload), (32, 2, 0, .astore 4), (34, 2, 0, .aload 4), (36, 3, 135, .getfield 448), (39, 1, 0, .iconst (-1)), (40, 3, 0, .if_icmp .eq (23)), (43, 2, 0, .aload 4), (45, 3, 140, .getfield 449), (48, 3, 0, .ifCond .ne (15)), (51, 1, 0, .iload_n 2), (52, 1, 0, .iload_n 3), (53, 1, 0, .ishr), (54, 1, 0, .iconst (1)), (55, 1, 0, .iand), (56, 3, 0, .ifCond .ne (7)), (59, 1, 0, .iconst (1)), (60, 3, 0, .goto (4)), (63, 1, 0, .iconst (0)), (64, 2, 0, .istore 5), (66, 2, 0, .iload 5), (68, 3, 0, .ifCond .eq (28)), (71, 1, 0, .aload_n 0), (72, 3, 9, .getfield 256), (75, 1, 0, .iload_n 1), (76, 3, 119, .invokestatic 6), (79, 1, 0, .aload_n 0), (80, 3, 9, .getfield 256), (83, 3, 75, .getfield 70), (86, 1, 0, .iload_n 3), (87, 1, 0, .iaload), (88, 3, 122, .invokevirtual 35), (91, 3, 0, .ifCond .eq (5)), (94, 1, 0, .iconst (5)), (95, 1, 0, .ireturn), (96, 3, 0, .iinc 3 (1)), (99, 3, 0, .goto (-87)), (102, 1, 0, .iconst (0)), (103, 1, 0, .ireturn)]
abbrev mm_m_Ru_builtError : mm_M := (⟨"QualifierGate$Rules", "builtError", "(II)I"⟩, prog_9_method_12_code, 6, some .int, (4, 2, false), (767, 766, 14, 83), mm_c_Ru_builtError)
def mm_c_Ru_isFitBuiltIn : List mm_I := [(0, 1, 0, .aload_n 1), (1, 3, 160, .getfield 518), (4, 28, 0, .lookupswitch (78) #[(0, 28), (1, 45)]), (32, 1, 0, .aload_n 1), (33, 3, 105, .getfield 517), (36, 3, 135, .getfield 448), (39, 1, 0, .iconst (-1)), (40, 3, 0, .if_icmp .ne (7)), (43, 1, 0, .iconst (1)), (44, 3, 0, .goto (4)), (47, 1, 0, .iconst (0)), (48, 1, 0, .ireturn), (49, 1, 0, .aload_n 1), (50, 3, 145, .getfield 516), (53, 3, 0, .ifCond .le (27)), (56, 1, 0, .aload_n 1), (57, 3, 148, .getfield 515), (60, 1, 0, .iconst (0)), (61, 1, 0, .aaload), (62, 3, 135, .getfield 448), (65, 1, 0, .iconst (-1)), (66, 3, 0, .if_icmp .ne (14)), (69, 1, 0, .aload_n 1), (70, 3, 101, .invokevirtual 23), (73, 3, 0, .ifCond .ne (7)), (76, 1, 0, .iconst (1)), (77, 3, 0, .goto (4)), (80, 1, 0, .iconst (0)), (81, 1, 0, .ireturn), (82, 1, 0, .aload_n 1), (83, 3, 145, .getfield 516), (86, 3, 0, .ifCond .le (31)), (89, 1, 0, .aload_n 1), (90, 3, 101, .invokevirtual 23), (93, 3, 0, .ifCond .eq (24)), (96, 1, 0, .aload_n 0), (97, 1, 0, .aload_n 1), (98, 3, 148, .getfield 515), (101, 1, 0, .iconst (0)), (102, 1, 0, .aaload), (103, 1, 0, .aload_n 1), (104, 3, 105, .getfield 517), (107, 3, 163, .invokevirtual 63), (110, 3, 0, .ifCond .eq (7)), (113, 1, 0, .iconst (1)), (114, 3, 0, .goto (4)), (117, 1, 0, .iconst (0)), (118, 1, 0, .ireturn)]
abbrev mm_m_Ru_isFitBuiltIn : mm_M := (⟨"QualifierGate$Rules", "isFitBuiltIn", "(LQualifierGate$Method;)Z"⟩, prog_9_method_13_code, 2, some .boolean, (4, 1, false), (559, 557, 559, 83), mm_c_Ru_isFitBuiltIn)
def mm_c_Ru_fits : List mm_I := [(0, 1, 0, .aload_n 1), (1, 3, 135, .getfield 448), (4, 3, 0, .ifCond .lt (10)), (7, 1, 0, .aload_n 2), (8, 3, 135, .getfield 448), (11, 3, 0, .ifCond .ge (20)), (14, 1, 0, .aload_n 1), (15, 3, 135, .getfield 448), (18, 1, 0, .aload_n 2), (19, 3, 135, .getfield 448), (22, 3, 0, .if_icmp .ne (7)), (25, 1, 0, .iconst (1)), (26, 3, 0, .goto (4)), (29, 1, 0, .iconst (0)), (30, 1, 0, .ireturn), (31, 1, 0, .aload_n 0), (32, 3, 9, .getfield 256), (35, 1, 0, .aload_n 1), (36, 3, 135, .getfield 448), (39, 1, 0, .aload_n 2), (40, 3, 135, .getfield 448), (43, 3, 122, .invokevirtual 35), (46, 3, 0, .ifCond .eq (21)), (49, 1, 0, .aload_n 2), (50, 3, 140, .getfield 449), (53, 3, 0, .ifCond .ne (10)), (56, 1, 0, .aload_n 1), (57, 3, 140, .getfield 449), (60, 3, 0, .ifCond .ne (7)), (63, 1, 0, .iconst (1)), (64, 3, 0, .goto (4)), (67, 1, 0, .iconst (0)), (68, 1, 0, .ireturn)]
abbrev mm_m_Ru_fits : mm_M := (⟨"QualifierGate$Rules", "fits", "(LQualifierGate$Place;LQualifierGate$Place;)Z"⟩, prog_9_method_14_code, 3, some .boolean, (4, 2, false), (567, 566, 1, 83), mm_c_Ru_fits)
def mm_c_Ru_fitsWithMarks : List mm_I := [(0, 1, 0, .aload_n 0), (1, 1, 0, .aload_n 1), (2, 1, 0, .aload_n 2), (3, 3, 163, .invokevirtual 63), (6, 3, 0, .ifCond .eq (21)), (9, 1, 0, .aload_n 1), (10, 3, 143, .getfield 450), (13, 1, 0, .aload_n 2), (14, 3, 143, .getfield 450), (17, 1, 0, .iconst (-1)), (18, 1, 0, .ixor), (19, 1, 0, .iand), (20, 3, 0, .ifCond .ne (7)), (23, 1, 0, .iconst (1)), (24, 3, 0, .goto (4)), (27, 1, 0, .iconst (0)), (28, 1, 0, .ireturn)]
abbrev mm_m_Ru_fitsWithMarks : mm_M := (⟨"QualifierGate$Rules", "fitsWithMarks", "(LQualifierGate$Place;LQualifierGate$Place;)Z"⟩, prog_9_method_15_code, 3, some .boolean, (4, 2, false), (815, 814, 21, 83), mm_c_Ru_fitsWithMarks)
def mm_c_Ru_mayReplace : List mm_I := [(0, 1, 0, .aload_n 1), (1, 3, 151, .getfield 514), (4, 3, 0, .ifCond .ne (21)), (7, 1, 0, .aload_n 2), (8, 3, 151, .getfield 514), (11, 3, 0, .ifCond .ne (14)), (14, 1, 0, .aload_n 1), (15, 3, 145, .getfield 516), (18, 1, 0, .aload_n 2), (19, 3, 145, .getfield 516), (22, 3, 0, .if_icmp .eq (5)), (25, 1, 0, .iconst (0)), (26, 1, 0, .ireturn), (27, 1, 0, .iconst (0)), (28, 1, 0, .istore_n 3), (29, 1, 0, .iload_n 3), (30, 1, 0, .aload_n 1), (31, 3, 145, .getfield 516), (34, 3, 0, .if_icmp .ge (30)), (37, 1, 0, .aload_n 0), (38, 1, 0, .aload_n 2), (39, 3, 148, .getfield 515), (42, 1, 0, .iload_n 3), (43, 1, 0, .aaload), (44, 1, 0, .aload_n 1), (45, 3, 148, .getfield 515), (48, 1, 0, .iload_n 3), (49, 1, 0, .aaload), (50, 3, 167, .invokevirtual 64), (53, 3, 0, .ifCond .ne (5)), (56, 1, 0, .iconst (0)), (57, 1, 0, .ireturn), (58, 3, 0, .iinc 3 (1)), (61, 3, 0, .goto (-32)), (64, 1, 0, .aload_n 1), (65, 3, 101, .invokevirtual 23), (68, 3, 0, .ifCond .eq (18)), (71, 1, 0, .aload_n 0), (72, 1, 0, .aload_n 1), (73, 3, 105, .getfield 517), (76, 1, 0, .aload_n 2), (77, 3, 105, .getfield 517), (80, 3, 167, .invokevirtual 64), (83, 3, 0, .goto (15)), (86, 1, 0, .aload_n 2), (87, 3, 101, .invokevirtual 23), (90, 3, 0, .ifCond .ne (7)), (93, 1, 0, .iconst (1)), (94, 3, 0, .goto (4)), (97, 1, 0, .iconst (0)), (98, 1, 0, .ireturn)]
abbrev mm_m_Ru_mayReplace : mm_M := (⟨"QualifierGate$Rules", "mayReplace", "(LQualifierGate$Method;LQualifierGate$Method;)Z"⟩, prog_9_method_16_code, 4, some .boolean, (4, 2, false), (811, 809, 811, 83), mm_c_Ru_mayReplace)
def mm_c_Lo_init : List mm_I := [(0, 1, 0, .aload_n 0), (1, 3, 3, .invokespecial 1000), (4, 1, 0, .aload_n 0), (5, 2, 0, .bipush (20)), (7, 3, 9, .anewarray 4), (10, 3, 11, .putfield 130), (13, 1, 0, .aload_n 0), (14, 3, 9, .new 3), (17, 1, 0, .dup), (18, 3, 17, .invokespecial 42), (21, 3, 18, .putfield 131), (24, 1, 0, .aload_n 0), (25, 3, 9, .new 3), (28, 1, 0, .dup), (29, 3, 17, .invokespecial 42), (32, 3, 22, .putfield 132), (35, 1, 0, .aload_n 0), (36, 1, 0, .aload_n 1), (37, 3, 25, .putfield 128), (40, 1, 0, .aload_n 0), (41, 3, 29, .new 4), (44, 1, 0, .dup), (45, 1, 0, .aload_n 1), (46, 3, 31, .invokespecial 50), (49, 3, 34, .putfield 129), (52, 1, 0, .iconst (0)), (53, 1, 0, .istore_n 2), (54, 1, 0, .iload_n 2), (55, 1, 0, .aload_n 0), (56, 3, 11, .getfield 130), (59, 1, 0, .arraylength), (60, 3, 0, .if_icmp .ge (22)), (63, 1, 0, .aload_n 0), (64, 3, 11, .getfield 130), (67, 1, 0, .iload_n 2), (68, 3, 9, .new 3), (71, 1, 0, .dup), (72, 3, 17, .invokespecial 42), (75, 1, 0, .aastore), (76, 3, 0, .iinc 2 (1)), (79, 3, 0, .goto (-25)), (82, 1, 0, .return_)]
abbrev mm_m_Lo_init : mm_M := (⟨"QualifierGate$Look", "<init>", "(LQualifierGate$Stock;)V"⟩, prog_4_method_1_code, 3, none, (2, 1, false), (163, 162, 0, 81), mm_c_Lo_init)
def mm_c_Lo_frameAt : List mm_I := [(0, 1, 0, .iload_n 1), (1, 1, 0, .aload_n 0), (2, 3, 11, .getfield 130), (5, 1, 0, .arraylength), (6, 3, 38, .invokestatic 123), (9, 3, 0, .ifCond .eq (12)), (12, 1, 0, .aload_n 0), (13, 3, 11, .getfield 130), (16, 1, 0, .iload_n 1), (17, 1, 0, .aaload), (18, 3, 0, .goto (4)), (21, 1, 0, .aconst_null), (22, 1, 0, .areturn)]
abbrev mm_m_Lo_frameAt : mm_M := (⟨"QualifierGate$Look", "frameAt", "(I)LQualifierGate$Frame;"⟩, prog_4_method_2_code, 2, some (.object "QualifierGate$Frame"), (2, 1, false), (831, 829, 831, 81), mm_c_Lo_frameAt)
def mm_c_Lo_through : List mm_I := [(0, 1, 0, .aload_n 0), (1, 1, 0, .aload_n 1), (2, 3, 42, .putfield 133), (5, 1, 0, .iconst (0)), (6, 1, 0, .istore_n 2), (7, 1, 0, .iload_n 2), (8, 1, 0, .aload_n 0), (9, 3, 11, .getfield 130), (12, 1, 0, .arraylength), (13, 3, 0, .if_icmp .ge (29)), (16, 1, 0, .aload_n 0), (17, 3, 11, .getfield 130), (20, 1, 0, .iload_n 2), (21, 1, 0, .aaload), (22, 1, 0, .iconst (-1)), (23, 3, 46, .putfield 193), (26, 1, 0, .aload_n 0), (27, 3, 11, .getfield 130), (30, 1, 0, .iload_n 2), (31, 1, 0, .aaload), (32, 1, 0, .iconst (0)), (33, 3, 50, .putfield 196), (36, 3, 0, .iinc 2 (1)), (39, 3, 0, .goto (-32)), (42, 1, 0, .aload_n 1), (43, 3, 54, .invokevirtual 22), (46, 3, 0, .ifCond .eq (21)), (49, 1, 0, .aload_n 0), (50, 3, 34, .getfield 129), (53, 1, 0, .aload_n 1), (54, 3, 60, .invokevirtual 62), (57, 3, 0, .ifCond .eq (7)), (60, 1, 0, .iconst (0)), (61, 3, 0, .goto (5)), (64, 2, 0, .bipush (9)), (66, 1, 0, .ireturn), (67, 1, 0, .aload_n 1), (68, 3, 64, .getfield 521), (71, 3, 0, .ifCond .ne (6)), (74, 2, 0, .bipush (8)), (76, 1, 0, .ireturn), (77, 1, 0, .aload_n 0), (78, 1, 0, .aload_n 0), (79, 3, 11, .getfield 130), (82, 1, 0, .iconst (0)), (83, 1, 0, .aaload), (84, 3, 67, .invokevirtual 70), (87, 1, 0, .aload_n 0), (88, 3, 71, .invokevirtual 71), (91, 1, 0, .iconst (0)), (92, 1, 0, .istore_n 2), (93, 1, 0, .iload_n 2), (94, 1, 0, .aload_n 1), (95, 3, 64, .getfield 521), (98, 3, 0, .if_icmp .ge (68)), (101, 1, 0, .aload_n 0), (102, 3, 34, .getfield 129), (105, 1, 0, .aload_n 1), (106, 1, 0, .iload_n 2), (107, 1, 0, .aload_n 0), (108, 3, 11, .getfield 130), (111, 1, 0, .iload_n 2), (112, 1, 0, .aaload), (113, 3, 74, .invokevirtual 51), (116, 1, 0, .istore_n 3), (117, 1, 0, .iload_n 3), (118, 3, 0, .ifCond .ne (31)), (121, 1, 0, .aload_n 0), (122, 3, 11, .getfield 130), (125, 1, 0, .iload_n 2), (126, 1, 0, .aaload), (127, 3, 46, .getfield 193), (130, 3, 0, .ifCond .lt (19)), (133, 1, 0, .aload_n 0), (134, 3, 34, .getfield 129), (137, 1, 0, .aload_n 1), (138, 1, 0, .iload_n 2), (139, 1, 0, .aload_n 0), (140, 3, 11, .getfield 130), (143, 1, 0, .iload_n 2), (144, 1, 0, .aaload), (145, 3, 78, .invokevirtual 53), (148, 1, 0, .istore_n 3), (149, 1, 0, .iload_n 3), (150, 3, 0, .ifCond .eq (10)), (153, 1, 0, .aload_n 0), (154, 1, 0, .iload_n 2), (155, 3, 81, .putfield 134), (158, 1, 0, .iload_n 3), (159, 1, 0, .ireturn), (160, 3, 0, .iinc 2 (1)), (163, 3, 0, .goto (-70)), (166, 1, 0, .iconst (0)), (167, 1, 0, .ireturn)]
abbrev mm_m_Lo_through : mm_M := (⟨"QualifierGate$Look", "through", "(LQualifierGate$Method;)I"⟩, prog_4_method_3_code, 4, some .int, (2, 1, false), (551, 549, 551, 81), mm_c_Lo_through)
def mm_c_Lo_departs : List mm_I := [(0, 1, 0, .aload_n 0), (1, 3, 25, .getfield 128), (4, 3, 84, .getfield 65), (7, 1, 0, .aload_n 1), (8, 3, 90, .getfield 512), (11, 1, 0, .iaload), (12, 1, 0, .istore_n 2), (13, 1, 0, .aload_n 0), (14, 3, 25, .getfield 128), (17, 1, 0, .iload_n 2), (18, 1, 0, .aload_n 1), (19, 3, 93, .getfield 513), (22, 3, 96, .invokevirtual 38), (25, 1, 0, .astore_n 3), (26, 1, 0, .aload_n 3), (27, 3, 0, .ifnull (19)), (30, 1, 0, .aload_n 0), (31, 3, 34, .getfield 129), (34, 1, 0, .aload_n 1), (35, 1, 0, .aload_n 3), (36, 3, 100, .invokevirtual 65), (39, 3, 0, .ifCond .ne (7)), (42, 1, 0, .iconst (1)), (43, 3, 0, .goto (4)), (46, 1, 0, .iconst (0)), (47, 1, 0, .ireturn)]
abbrev mm_m_Lo_departs : mm_M := (⟨"QualifierGate$Look", "departs", "(LQualifierGate$Method;)Z"⟩, prog_4_method_4_code, 4, some .boolean, (2, 1, false), (802, 800, 802, 81), mm_c_Lo_departs)
def mm_c_Lo_begin : List mm_I := [(0, 1, 0, .aload_n 1), (1, 1, 0, .iconst (0)), (2, 3, 46, .putfield 193), (5, 1, 0, .aload_n 1), (6, 1, 0, .iconst (-1)), (7, 3, 104, .putfield 194), (10, 1, 0, .aload_n 1), (11, 1, 0, .iconst (0)), (12, 3, 107, .putfield 195), (15, 1, 0, .aload_n 1), (16, 1, 0, .iconst (1)), (17, 3, 50, .putfield 196), (20, 1, 0, .iconst (0)), (21, 1, 0, .istore_n 2), (22, 1, 0, .iload_n 2), (23, 2, 0, .bipush (6)), (25, 3, 0, .if_icmp .ge (22)), (28, 1, 0, .aload_n 1), (29, 3, 110, .getfield 192), (32, 1, 0, .iload_n 2), (33, 1, 0, .iconst (0)), (34, 1, 0, .iconst (-1)), (35, 1, 0, .iconst (0)), (36, 1, 0, .iconst (0)), (37, 3, 115, .invokestatic 3), (40, 1, 0, .iastore), (41, 3, 0, .iinc 2 (1)), (44, 3, 0, .goto (-22)), (47, 1, 0, .aload_n 0), (48, 3, 42, .getfield 133), (51, 3, 119, .getfield 514), (54, 3, 0, .ifCond .ne (22)), (57, 1, 0, .aload_n 1), (58, 3, 110, .getfield 192), (61, 1, 0, .iconst (0)), (62, 1, 0, .iconst (3)), (63, 1, 0, .aload_n 0), (64, 3, 42, .getfield 133), (67, 3, 90, .getfield 512), (70, 1, 0, .iconst (0)), (71, 1, 0, .iconst (0)), (72, 3, 115, .invokestatic 3), (75, 1, 0, .iastore), (76, 1, 0, .iconst (0)), (77, 1, 0, .istore_n 2), (78, 1, 0, .iload_n 2), (79, 1, 0, .aload_n 0), (80, 3, 42, .getfield 133), (83, 3, 122, .getfield 516), (86, 3, 0, .if_icmp .ge (41)), (89, 1, 0, .aload_n 0), (90, 3, 42, .getfield 133), (93, 3, 125, .getfield 515), (96, 1, 0, .iload_n 2), (97, 1, 0, .aaload), (98, 1, 0, .astore_n 3), (99, 1, 0, .aload_n 1), (100, 3, 110, .getfield 192), (103, 1, 0, .aload_n 0), (104, 3, 42, .getfield 133), (107, 3, 129, .invokevirtual 25), (110, 1, 0, .iload_n 2), (111, 1, 0, .iadd), (112, 1, 0, .aload_n 3), (113, 1, 0, .aload_n 3), (114, 3, 133, .getfield 449), (117, 3, 138, .invokestatic 4), (120, 1, 0, .iastore), (121, 3, 0, .iinc 2 (1)), (124, 3, 0, .goto (-46)), (127, 1, 0, .return_)]
abbrev mm_m_Lo_begin : mm_M := (⟨"QualifierGate$Look", "begin", "(LQualifierGate$Frame;)V"⟩, prog_4_method_5_code, 4, none, (2, 1, false), (575, 574, 2, 81), mm_c_Lo_begin)
def mm_c_Lo_settle : List mm_I := [(0, 1, 0, .iconst (1)), (1, 1, 0, .istore_n 1), (2, 1, 0, .iconst (0)), (3, 1, 0, .istore_n 2), (4, 1, 0, .iload_n 1), (5, 3, 0, .ifCond .eq (66)), (8, 1, 0, .iload_n 2), (9, 3, 0, .sipush (10000)), (12, 3, 0, .if_icmp .ge (59)), (15, 1, 0, .iconst (0)), (16, 1, 0, .istore_n 1), (17, 1, 0, .iconst (0)), (18, 1, 0, .istore_n 3), (19, 1, 0, .iload_n 3), (20, 1, 0, .aload_n 0), (21, 3, 42, .getfield 133), (24, 3, 64, .getfield 521), (27, 3, 0, .if_icmp .ge (38)), (30, 1, 0, .aload_n 0), (31, 3, 11, .getfield 130), (34, 1, 0, .iload_n 3), (35, 1, 0, .aaload), (36, 3, 50, .getfield 196), (39, 3, 0, .ifCond .eq (20)), (42, 1, 0, .aload_n 0), (43, 3, 11, .getfield 130), (46, 1, 0, .iload_n 3), (47, 1, 0, .aaload), (48, 1, 0, .iconst (0)), (49, 3, 50, .putfield 196), (52, 1, 0, .aload_n 0), (53, 1, 0, .iload_n 3), (54, 3, 142, .invokevirtual 72), (57, 1, 0, .iconst (1)), (58, 1, 0, .istore_n 1), (59, 3, 0, .iinc 3 (1)), (62, 3, 0, .goto (-43)), (65, 3, 0, .iinc 2 (1)), (68, 3, 0, .goto (-64)), (71, 1, 0, .return_)]
abbrev mm_m_Lo_settle : mm_M := (⟨"QualifierGate$Look", "settle", "()V"⟩, prog_4_method_6_code, 4, none, (2, 0, false), (590, 589, 3, 81), mm_c_Lo_settle)
def mm_c_Lo_leave : List mm_I := [(0, 1, 0, .aload_n 0), (1, 3, 42, .getfield 133), (4, 3, 146, .getfield 519), (7, 1, 0, .iload_n 1), (8, 1, 0, .iaload), (9, 1, 0, .istore_n 2), (10, 1, 0, .aload_n 0), (11, 3, 11, .getfield 130), (14, 1, 0, .iload_n 1), (15, 1, 0, .aaload), (16, 1, 0, .astore_n 3), (17, 1, 0, .aload_n 3), (18, 3, 46, .getfield 193), (21, 2, 0, .bipush (-2)), (23, 3, 0, .if_icmp .eq (22)), (26, 1, 0, .aload_n 0), (27, 3, 25, .getfield 128), (30, 1, 0, .aload_n 0), (31, 3, 42, .getfield 133), (34, 1, 0, .iload_n 1), (35, 1, 0, .aload_n 3), (36, 3, 46, .getfield 193), (39, 3, 149, .invokevirtual 40), (42, 3, 0, .ifCond .eq (7)), (45, 1, 0, .iconst (1)), (46, 3, 0, .goto (4)), (49, 1, 0, .iconst (0)), (50, 2, 0, .istore 4), (52, 1, 0, .aload_n 0), (53, 3, 18, .getfield 131), (56, 1, 0, .aload_n 3), (57, 3, 153, .invokevirtual 43), (60, 2, 0, .iload 4), (62, 3, 0, .ifCond .eq (15)), (65, 1, 0, .aload_n 0), (66, 3, 18, .getfield 131), (69, 2, 0, .bipush (-2)), (71, 3, 46, .putfield 193), (74, 3, 0, .goto (41)), (77, 1, 0, .iload_n 2), (78, 2, 0, .bipush (9)), (80, 3, 0, .if_icmp .ge (21)), (83, 1, 0, .aload_n 0), (84, 1, 0, .iload_n 1), (85, 1, 0, .iload_n 2), (86, 1, 0, .aload_n 0), (87, 3, 42, .getfield 133), (90, 3, 158, .getfield 520), (93, 1, 0, .iload_n 1), (94, 1, 0, .iaload), (95, 3, 161, .invokevirtual 75), (98, 3, 0, .goto (17)), (101, 1, 0, .aload_n 0), (102, 1, 0, .iload_n 2), (103, 1, 0, .aload_n 0), (104, 3, 42, .getfield 133), (107, 3, 158, .getfield 520), (110, 1, 0, .iload_n 1), (111, 1, 0, .iaload), (112, 3, 165, .invokevirtual 76), (115, 1, 0, .iload_n 2), (116, 3, 169, .invokestatic 1), (119, 3, 0, .ifCond .eq (38)), (122, 1, 0, .aload_n 0), (123, 1, 0, .aload_n 0), (124, 3, 42, .getfield 133), (127, 3, 158, .getfield 520), (130, 1, 0, .iload_n 1), (131, 1, 0, .iaload), (132, 2, 0, .iload 4), (134, 3, 0, .ifCond .ne (9)), (137, 1, 0, .iload_n 2), (138, 2, 0, .bipush (15)), (140, 3, 0, .if_icmp .eq (10)), (143, 1, 0, .aload_n 0), (144, 3, 18, .getfield 131), (147, 3, 0, .goto (7)), (150, 1, 0, .aload_n 0), (151, 3, 22, .getfield 132), (154, 3, 173, .invokevirtual 74), (157, 1, 0, .iload_n 2), (158, 3, 177, .invokestatic 0), (161, 3, 0, .ifCond .eq (14)), (164, 1, 0, .aload_n 0), (165, 1, 0, .iload_n 1), (166, 1, 0, .iconst (1)), (167, 1, 0, .iadd), (168, 1, 0, .aload_n 0), (169, 3, 18, .getfield 131), (172, 3, 173, .invokevirtual 74), (175, 1, 0, .iload_n 2), (176, 3, 180, .invokestatic 2), (179, 3, 0, .ifCond .eq (14)), (182, 1, 0, .aload_n 0), (183, 3, 42, .getfield 133), (186, 1, 0, .iload_n 1), (187, 3, 183, .invokevirtual 26), (190, 3, 0, .goto (4)), (193, 1, 0, .iconst (-1)), (194, 2, 0, .istore 5), (196, 2, 0, .iload 5), (198, 1, 0, .iconst (-1)), (199, 3, 0, .if_icmp .eq (27)), (202, 1, 0, .aload_n 0), (203, 3, 18, .getfield 131), (206, 1, 0, .aload_n 3), (207, 3, 153, .invokevirtual 43), (210, 1, 0, .aload_n 0), (211, 2, 0, .iload 4), (213, 3, 187, .invokevirtual 73), (216, 1, 0, .aload_n 0), (217, 2, 0, .iload 5), (219, 1, 0, .aload_n 0), (220, 3, 18, .getfield 131), (223, 3, 173, .invokevirtual 74), (226, 1, 0, .return_)]
abbrev mm_m_Lo_leave : mm_M := (⟨"QualifierGate$Look", "leave", "(I)V"⟩, prog_4_method_7_code, 6, none, (2, 1, false), (594, 593, 4, 81), mm_c_Lo_leave)
def mm_c_Lo_beginCatch : List mm_I := [(0, 1, 0, .aload_n 0), (1, 3, 18, .getfield 131), (4, 1, 0, .iload_n 1), (5, 3, 0, .ifCond .eq (8)), (8, 2, 0, .bipush (-2)), (10, 3, 0, .goto (4)), (13, 1, 0, .iconst (0)), (14, 3, 46, .putfield 193), (17, 1, 0, .iload_n 1), (18, 3, 0, .ifCond .ne (17)), (21, 1, 0, .aload_n 0), (22, 3, 18, .getfield 131), (25, 1, 0, .iconst (3)), (26, 1, 0, .iconst (0)), (27, 1, 0, .iconst (0)), (28, 1, 0, .iconst (0)), (29, 3, 115, .invokestatic 3), (32, 3, 191, .invokevirtual 44), (35, 1, 0, .return_)]
abbrev mm_m_Lo_beginCatch : mm_M := (⟨"QualifierGate$Look", "beginCatch", "(Z)V"⟩, prog_4_method_8_code, 2, none, (2, 1, false), (735, 734, 12, 81), mm_c_Lo_beginCatch)
def mm_c_Lo_arrive : List mm_I := [(0, 1, 0, .iload_n 1), (1, 1, 0, .aload_n 0), (2, 3, 42, .getfield 133), (5, 3, 64, .getfield 521), (8, 3, 0, .if_icmp .ge (17)), (11, 1, 0, .aload_n 0), (12, 3, 11, .getfield 130), (15, 1, 0, .iload_n 1), (16, 1, 0, .aaload), (17, 1, 0, .aload_n 2), (18, 1, 0, .aload_n 0), (19, 3, 25, .getfield 128), (22, 3, 194, .invokevirtual 49), (25, 1, 0, .return_)]
abbrev mm_m_Lo_arrive : mm_M := (⟨"QualifierGate$Look", "arrive", "(ILQualifierGate$Frame;)V"⟩, prog_4_method_9_code, 3, none, (2, 2, false), (701, 700, 11, 81), mm_c_Lo_arrive)
def mm_c_Lo_applyToValues : List mm_I := [(0, 1, 0, .iload_n 2), (1, 47, 0, .tableswitch (207) (0) (7) #[47, 64, 81, 104, 115, 133, 144, 181]), (48, 1, 0, .aload_n 0), (49, 3, 18, .getfield 131), (52, 1, 0, .iconst (1)), (53, 1, 0, .iconst (-1)), (54, 1, 0, .iconst (0)), (55, 1, 0, .iconst (0)), (56, 3, 115, .invokestatic 3), (59, 3, 191, .invokevirtual 44), (62, 3, 0, .goto (174)), (65, 1, 0, .aload_n 0), (66, 3, 18, .getfield 131), (69, 1, 0, .iconst (2)), (70, 1, 0, .iconst (-1)), (71, 1, 0, .iconst (1)), (72, 1, 0, .iconst (0)), (73, 3, 115, .invokestatic 3), (76, 3, 191, .invokevirtual 44), (79, 3, 0, .goto (157)), (82, 1, 0, .aload_n 0), (83, 3, 18, .getfield 131), (86, 1, 0, .aload_n 0), (87, 3, 18, .getfield 131), (90, 3, 110, .getfield 192), (93, 1, 0, .iload_n 3), (94, 1, 0, .iaload), (95, 1, 0, .iload_n 3), (96, 3, 198, .invokestatic 10), (99, 3, 191, .invokevirtual 44), (102, 3, 0, .goto (134)), (105, 1, 0, .aload_n 0), (106, 3, 18, .getfield 131), (109, 1, 0, .iload_n 3), (110, 3, 202, .invokevirtual 47), (113, 3, 0, .goto (123)), (116, 1, 0, .aload_n 0), (117, 3, 18, .getfield 131), (120, 1, 0, .aload_n 0), (121, 3, 18, .getfield 131), (124, 1, 0, .iconst (0)), (125, 3, 205, .invokevirtual 46), (128, 3, 191, .invokevirtual 44), (131, 3, 0, .goto (105)), (134, 1, 0, .aload_n 0), (135, 3, 18, .getfield 131), (138, 3, 208, .invokevirtual 45), (141, 1, 0, .pop), (142, 3, 0, .goto (94)), (145, 1, 0, .aload_n 0), (146, 3, 18, .getfield 131), (149, 1, 0, .iconst (1)), (150, 1, 0, .iconst (-1)), (151, 1, 0, .iconst (0)), (152, 1, 0, .aload_n 0), (153, 3, 18, .getfield 131), (156, 3, 208, .invokevirtual 45), (159, 3, 211, .invokestatic 8), (162, 1, 0, .aload_n 0), (163, 3, 18, .getfield 131), (166, 3, 208, .invokevirtual 45), (169, 3, 211, .invokestatic 8), (172, 1, 0, .ior), (173, 3, 115, .invokestatic 3), (176, 3, 191, .invokevirtual 44), (179, 3, 0, .goto (57)), (182, 1, 0, .aload_n 0), (183, 3, 18, .getfield 131), (186, 1, 0, .iconst (0)), (187, 1, 0, .iload_n 1), (188, 3, 214, .invokevirtual 48), (191, 1, 0, .aload_n 0), (192, 3, 18, .getfield 131), (195, 1, 0, .iconst (4)), (196, 1, 0, .iload_n 3), (197, 1, 0, .iconst (0)), (198, 1, 0, .iconst (0)), (199, 3, 115, .invokestatic 3), (202, 3, 191, .invokevirtual 44), (205, 3, 0, .goto (31)), (208, 1, 0, .aload_n 0), (209, 3, 18, .getfield 131), (212, 1, 0, .aload_n 0), (213, 3, 18, .getfield 131), (216, 1, 0, .iconst (0)), (217, 3, 205, .invokevirtual 46), (220, 3, 218, .invokestatic 5), (223, 1, 0, .iconst (4)), (224, 3, 0, .if_icmp .ne (7)), (227, 1, 0, .iconst (1)), (228, 3, 0, .goto (4)), (231, 1, 0, .iconst (0)), (232, 1, 0, .iconst (-1)), (233, 3, 214, .invokevirtual 48), (236, 1, 0, .return_)]
abbrev mm_m_Lo_applyToValues : mm_M := (⟨"QualifierGate$Look", "applyToValues", "(III)V"⟩, prog_4_method_10_code, 4, none, (2, 3, false), (623, 622, 5, 81), mm_c_Lo_applyToValues)
def mm_c_Lo_applyToStock : List mm_I := [(0, 1, 0, .iload_n 1), (1, 43, 0, .tableswitch (124) (9) (15) #[43, 51, 59, 75, 124, 106, 117]), (44, 1, 0, .aload_n 0), (45, 1, 0, .iload_n 2), (46, 3, 221, .invokevirtual 77), (49, 3, 0, .goto (76)), (52, 1, 0, .aload_n 0), (53, 1, 0, .iload_n 2), (54, 3, 224, .invokevirtual 78), (57, 3, 0, .goto (68)), (60, 1, 0, .aload_n 0), (61, 1, 0, .aload_n 0), (62, 3, 25, .getfield 128), (65, 3, 227, .getfield 73), (68, 1, 0, .iload_n 2), (69, 1, 0, .aaload), (70, 3, 231, .invokevirtual 79), (73, 3, 0, .goto (52)), (76, 1, 0, .aload_n 0), (77, 3, 18, .getfield 131), (80, 3, 208, .invokevirtual 45), (83, 1, 0, .istore_n 3), (84, 1, 0, .aload_n 0), (85, 3, 18, .getfield 131), (88, 1, 0, .iconst (3)), (89, 1, 0, .iload_n 2), (90, 1, 0, .iload_n 3), (91, 3, 235, .invokestatic 7), (94, 1, 0, .iload_n 3), (95, 3, 211, .invokestatic 8), (98, 3, 115, .invokestatic 3), (101, 3, 191, .invokevirtual 44), (104, 3, 0, .goto (21)), (107, 1, 0, .aload_n 0), (108, 3, 18, .getfield 131), (111, 3, 208, .invokevirtual 45), (114, 1, 0, .pop), (115, 3, 0, .goto (10)), (118, 1, 0, .aload_n 0), (119, 3, 237, .invokevirtual 80), (122, 3, 0, .goto (3)), (125, 1, 0, .return_)]
abbrev mm_m_Lo_applyToStock : mm_M := (⟨"QualifierGate$Look", "applyToStock", "(II)V"⟩, prog_4_method_11_code, 4, none, (2, 2, false), (668, 667, 6, 81), mm_c_Lo_applyToStock)
def mm_c_Lo_get : List mm_I := [(0, 1, 0, .aload_n 0), (1, 3, 18, .getfield 131), (4, 3, 208, .invokevirtual 45), (7, 1, 0, .istore_n 2), (8, 1, 0, .iload_n 2), (9, 3, 218, .invokestatic 5), (12, 1, 0, .istore_n 3), (13, 1, 0, .iload_n 3), (14, 1, 0, .iconst (4)), (15, 3, 0, .if_icmp .ne (21)), (18, 1, 0, .aload_n 0), (19, 3, 18, .getfield 131), (22, 3, 107, .getfield 195), (25, 1, 0, .iload_n 1), (26, 1, 0, .ishr), (27, 1, 0, .iconst (1)), (28, 1, 0, .iand), (29, 3, 0, .ifCond .ne (7)), (32, 1, 0, .iconst (1)), (33, 3, 0, .goto (4)), (36, 1, 0, .iconst (0)), (37, 2, 0, .istore 4), (39, 1, 0, .iload_n 3), (40, 3, 0, .ifCond .eq (13)), (43, 1, 0, .iload_n 3), (44, 1, 0, .iconst (1)), (45, 3, 0, .if_icmp .eq (8)), (48, 2, 0, .iload 4), (50, 3, 0, .ifCond .eq (7)), (53, 1, 0, .iconst (1)), (54, 3, 0, .goto (4)), (57, 1, 0, .iconst (0)), (58, 2, 0, .istore 5), (60, 1, 0, .aload_n 0), (61, 3, 18, .getfield 131), (64, 1, 0, .aload_n 0), (65, 3, 25, .getfield 128), (68, 3, 240, .getfield 71), (71, 1, 0, .iload_n 1), (72, 1, 0, .aaload), (73, 1, 0, .aload_n 0), (74, 3, 25, .getfield 128), (77, 3, 240, .getfield 71), (80, 1, 0, .iload_n 1), (81, 1, 0, .aaload), (82, 3, 133, .getfield 449), (85, 3, 0, .ifCond .ne (8)), (88, 2, 0, .iload 5), (90, 3, 0, .ifCond .eq (7)), (93, 1, 0, .iconst (1)), (94, 3, 0, .goto (4)), (97, 1, 0, .iconst (0)), (98, 3, 138, .invokestatic 4), (101, 3, 191, .invokevirtual 44), (104, 1, 0, .return_)]
abbrev mm_m_Lo_get : mm_M := (⟨"QualifierGate$Look", "get", "(I)V"⟩, prog_4_method_12_code, 6, none, (2, 1, false), (672, 671, 7, 81), mm_c_Lo_get)
def mm_c_Lo_put : List mm_I := [(0, 1, 0, .aload_n 0), (1, 3, 18, .getfield 131), (4, 3, 208, .invokevirtual 45), (7, 1, 0, .pop), (8, 1, 0, .aload_n 0), (9, 3, 18, .getfield 131), (12, 3, 208, .invokevirtual 45), (15, 3, 218, .invokestatic 5), (18, 1, 0, .iconst (4)), (19, 3, 0, .if_icmp .ne (21)), (22, 1, 0, .aload_n 0), (23, 3, 18, .getfield 131), (26, 1, 0, .aload_n 0), (27, 3, 18, .getfield 131), (30, 3, 107, .getfield 195), (33, 1, 0, .iconst (1)), (34, 1, 0, .iload_n 1), (35, 1, 0, .ishl), (36, 1, 0, .ior), (37, 3, 107, .putfield 195), (40, 1, 0, .return_)]
abbrev mm_m_Lo_put : mm_M := (⟨"QualifierGate$Look", "put", "(I)V"⟩, prog_4_method_13_code, 2, none, (2, 1, false), (676, 675, 8, 81), mm_c_Lo_put)
def mm_c_Lo_call : List mm_I := [(0, 1, 0, .aload_n 0), (1, 3, 18, .getfield 131), (4, 1, 0, .dup), (5, 3, 46, .getfield 193), (8, 1, 0, .aload_n 1), (9, 3, 243, .invokevirtual 24), (12, 1, 0, .isub), (13, 3, 46, .putfield 193), (16, 1, 0, .aload_n 1), (17, 3, 246, .invokevirtual 23), (20, 3, 0, .ifCond .eq (24)), (23, 1, 0, .aload_n 0), (24, 3, 18, .getfield 131), (27, 1, 0, .aload_n 1), (28, 3, 249, .getfield 517), (31, 1, 0, .aload_n 1), (32, 3, 249, .getfield 517), (35, 3, 133, .getfield 449), (38, 3, 138, .invokestatic 4), (41, 3, 191, .invokevirtual 44), (44, 1, 0, .return_)]
abbrev mm_m_Lo_call : mm_M := (⟨"QualifierGate$Look", "call", "(LQualifierGate$Method;)V"⟩, prog_4_method_14_code, 2, none, (2, 1, false), (680, 679, 9, 81), mm_c_Lo_call)
def mm_c_Lo_isNull : List mm_I := [(0, 1, 0, .aload_n 0), (1, 3, 18, .getfield 131), (4, 3, 208, .invokevirtual 45), (7, 3, 253, .invokestatic 9), (10, 1, 0, .istore_n 1), (11, 1, 0, .aload_n 0), (12, 3, 22, .getfield 132), (15, 1, 0, .aload_n 0), (16, 3, 18, .getfield 131), (19, 3, 153, .invokevirtual 43), (22, 1, 0, .iload_n 1), (23, 1, 0, .iconst (-1)), (24, 3, 0, .if_icmp .eq (63)), (27, 1, 0, .aload_n 0), (28, 3, 18, .getfield 131), (31, 3, 110, .getfield 192), (34, 1, 0, .iload_n 1), (35, 1, 0, .iaload), (36, 3, 218, .invokestatic 5), (39, 1, 0, .iconst (3)), (40, 3, 0, .if_icmp .ne (26)), (43, 1, 0, .aload_n 0), (44, 3, 22, .getfield 132), (47, 3, 110, .getfield 192), (50, 1, 0, .iload_n 1), (51, 1, 0, .aload_n 0), (52, 3, 22, .getfield 132), (55, 3, 110, .getfield 192), (58, 1, 0, .iload_n 1), (59, 1, 0, .iaload), (60, 1, 0, .iconst (2)), (61, 1, 0, .iconst (-1)), (62, 3, 256, .invokestatic 11), (65, 1, 0, .iastore), (66, 1, 0, .aload_n 0), (67, 3, 18, .getfield 131), (70, 3, 110, .getfield 192), (73, 1, 0, .iload_n 1), (74, 1, 0, .aload_n 0), (75, 3, 18, .getfield 131), (78, 3, 110, .getfield 192), (81, 1, 0, .iload_n 1), (82, 1, 0, .iaload), (83, 3, 260, .invokestatic 12), (86, 1, 0, .iastore), (87, 1, 0, .return_)]
abbrev mm_m_Lo_isNull : mm_M := (⟨"QualifierGate$Look", "isNull", "()V"⟩, prog_4_method_15_code, 2, none, (2, 0, false), (689, 688, 10, 81), mm_c_Lo_isNull)
def mm_c_Ac_init : List mm_I := [(0, 1, 0, .aload_n 0), (1, 3, 3, .invokespecial 1000), (4, 1, 0, .aload_n 0), (5, 2, 0, .bipush (6)), (7, 2, 0, .newarray .int), (9, 3, 9, .putfield 386), (12, 1, 0, .aload_n 0), (13, 1, 0, .iconst (4)), (14, 2, 0, .newarray .int), (16, 3, 15, .putfield 387), (19, 1, 0, .return_)]
abbrev mm_m_Ac_init : mm_M := (⟨"QualifierGate$Activation", "<init>", "()V"⟩, prog_2_method_1_code, 1, none, (6, 0, false), (243, 242, 0, 85), mm_c_Ac_init)
def mm_c_Ac_begin : List mm_I := [(0, 1, 0, .aload_n 0), (1, 1, 0, .aload_n 1), (2, 3, 18, .putfield 384), (5, 1, 0, .aload_n 0), (6, 1, 0, .iconst (0)), (7, 3, 22, .putfield 385), (10, 1, 0, .aload_n 0), (11, 1, 0, .iconst (0)), (12, 3, 26, .putfield 388), (15, 1, 0, .iconst (0)), (16, 1, 0, .istore_n 2), (17, 1, 0, .iload_n 2), (18, 2, 0, .bipush (6)), (20, 3, 0, .if_icmp .ge (16)), (23, 1, 0, .aload_n 0), (24, 3, 9, .getfield 386), (27, 1, 0, .iload_n 2), (28, 1, 0, .iconst (0)), (29, 1, 0, .iastore), (30, 3, 0, .iinc 2 (1)), (33, 3, 0, .goto (-16)), (36, 1, 0, .return_)]
abbrev mm_m_Ac_begin : mm_M := (⟨"QualifierGate$Activation", "begin", "(LQualifierGate$Method;)V"⟩, prog_2_method_2_code, 3, none, (6, 1, false), (864, 862, 864, 85), mm_c_Ac_begin)
def mm_c_Ac_push : List mm_I := [(0, 1, 0, .aload_n 0), (1, 3, 26, .getfield 388), (4, 1, 0, .iconst (4)), (5, 3, 0, .if_icmp .ge (23)), (8, 1, 0, .aload_n 0), (9, 3, 15, .getfield 387), (12, 1, 0, .aload_n 0), (13, 3, 26, .getfield 388), (16, 1, 0, .iload_n 1), (17, 1, 0, .iastore), (18, 1, 0, .aload_n 0), (19, 1, 0, .dup), (20, 3, 26, .getfield 388), (23, 1, 0, .iconst (1)), (24, 1, 0, .iadd), (25, 3, 26, .putfield 388), (28, 1, 0, .return_)]
abbrev mm_m_Ac_push : mm_M := (⟨"QualifierGate$Activation", "push", "(I)V"⟩, prog_2_method_3_code, 2, none, (6, 1, false), (879, 877, 879, 85), mm_c_Ac_push)
def mm_c_Ac_pop : List mm_I := [(0, 1, 0, .aload_n 0), (1, 3, 26, .getfield 388), (4, 3, 0, .ifCond .ne (5)), (7, 1, 0, .iconst (0)), (8, 1, 0, .ireturn), (9, 1, 0, .aload_n 0), (10, 1, 0, .dup), (11, 3, 26, .getfield 388), (14, 1, 0, .iconst (1)), (15, 1, 0, .isub), (16, 3, 26, .putfield 388), (19, 1, 0, .aload_n 0), (20, 3, 15, .getfield 387), (23, 1, 0, .aload_n 0), (24, 3, 26, .getfield 388), (27, 1, 0, .iaload), (28, 1, 0, .ireturn)]
abbrev mm_m_Ac_pop : mm_M := (⟨"QualifierGate$Activation", "pop", "()I"⟩, prog_2_method_4_code, 1, some .int, (6, 0, false), (883, 881, 883, 85), mm_c_Ac_pop)
def mm_c_Ma_init : List mm_I := [(0, 1, 0, .aload_n 0), (1, 3, 3, .invokespecial 1000), (4, 1, 0, .aload_n 0), (5, 2, 0, .bipush (8)), (7, 2, 0, .newarray .int), (9, 3, 9, .putfield 321), (12, 1, 0, .aload_n 0), (13, 2, 0, .bipush (16)), (15, 2, 0, .newarray .int), (17, 3, 15, .putfield 323), (20, 1, 0, .aload_n 0), (21, 2, 0, .bipush (24)), (23, 2, 0, .newarray .int), (25, 3, 18, .putfield 330), (28, 1, 0, .aload_n 0), (29, 3, 0, .sipush (288)), (32, 2, 0, .newarray .int), (34, 3, 21, .putfield 331), (37, 1, 0, .aload_n 0), (38, 2, 0, .bipush (6)), (40, 3, 24, .anewarray 5), (43, 3, 26, .putfield 332), (46, 1, 0, .aload_n 0), (47, 1, 0, .aload_n 1), (48, 3, 30, .putfield 320), (51, 1, 0, .iconst (0)), (52, 1, 0, .istore_n 2), (53, 1, 0, .iload_n 2), (54, 1, 0, .aload_n 0), (55, 3, 26, .getfield 332), (58, 1, 0, .arraylength), (59, 3, 0, .if_icmp .ge (22)), (62, 1, 0, .aload_n 0), (63, 3, 26, .getfield 332), (66, 1, 0, .iload_n 2), (67, 3, 24, .new 6), (70, 1, 0, .dup), (71, 3, 34, .invokespecial 81), (74, 1, 0, .aastore), (75, 3, 0, .iinc 2 (1)), (78, 3, 0, .goto (-25)), (81, 1, 0, .return_)]
abbrev mm_m_Ma_init : mm_M := (⟨"QualifierGate$Machine", "<init>", "(LQualifierGate$Stock;)V"⟩, prog_5_method_1_code, 3, none, (5, 1, false), (236, 235, 0, 84), mm_c_Ma_init)
def mm_c_Ma_addInput : List mm_I := [(0, 1, 0, .aload_n 0), (1, 3, 9, .getfield 321), (4, 1, 0, .aload_n 0), (5, 3, 35, .getfield 322), (8, 1, 0, .iload_n 1), (9, 1, 0, .iastore), (10, 1, 0, .aload_n 0), (11, 1, 0, .dup), (12, 3, 35, .getfield 322), (15, 1, 0, .iconst (1)), (16, 1, 0, .iadd), (17, 3, 35, .putfield 322), (20, 1, 0, .aload_n 0), (21, 3, 35, .getfield 322), (24, 1, 0, .ireturn)]
abbrev mm_m_Ma_addInput : mm_M := (⟨"QualifierGate$Machine", "addInput", "(I)I"⟩, prog_5_method_2_code, 2, some .int, (5, 1, false), (843, 841, 843, 84), mm_c_Ma_addInput)
def mm_c_Ma_start : List mm_I := [(0, 1, 0, .aload_n 0), (1, 1, 0, .iconst (0)), (2, 3, 39, .putfield 324), (5, 1, 0, .aload_n 0), (6, 1, 0, .iconst (0)), (7, 3, 42, .putfield 325), (10, 1, 0, .aload_n 0), (11, 1, 0, .iconst (0)), (12, 3, 45, .putfield 326), (15, 1, 0, .aload_n 0), (16, 1, 0, .iconst (0)), (17, 3, 48, .putfield 327), (20, 1, 0, .aload_n 0), (21, 1, 0, .iconst (0)), (22, 3, 51, .putfield 328), (25, 1, 0, .aload_n 0), (26, 1, 0, .iconst (0)), (27, 3, 54, .putfield 329), (30, 1, 0, .aload_n 0), (31, 1, 0, .iconst (0)), (32, 3, 57, .putfield 333), (35, 1, 0, .aload_n 0), (36, 1, 0, .iconst (-1)), (37, 3, 60, .putfield 334), (40, 1, 0, .aload_n 0), (41, 1, 0, .aload_n 1), (42, 3, 63, .invokevirtual 88), (45, 2, 0, .astore 4), (47, 1, 0, .aload_n 1), (48, 3, 67, .getfield 516), (51, 3, 0, .ifCond .le (11)), (54, 2, 0, .aload 4), (56, 3, 72, .getfield 386), (59, 1, 0, .iconst (0)), (60, 1, 0, .iload_n 2), (61, 1, 0, .iastore), (62, 1, 0, .aload_n 1), (63, 3, 67, .getfield 516), (66, 1, 0, .iconst (1)), (67, 3, 0, .if_icmp .le (11)), (70, 2, 0, .aload 4), (72, 3, 72, .getfield 386), (75, 1, 0, .iconst (1)), (76, 1, 0, .iload_n 3), (77, 1, 0, .iastore), (78, 1, 0, .iconst (0)), (79, 2, 0, .istore 5), (81, 1, 0, .aload_n 0), (82, 3, 60, .getfield 334), (85, 1, 0, .iconst (-1)), (86, 3, 0, .if_icmp .ne (42)), (89, 2, 0, .iload 5), (91, 3, 0, .sipush (400)), (94, 3, 0, .if_icmp .ge (34)), (97, 1, 0, .aload_n 0), (98, 1, 0, .dup), (99, 3, 42, .getfield 325), (102, 1, 0, .iconst (1)), (103, 1, 0, .iadd), (104, 3, 42, .putfield 325), (107, 1, 0, .aload_n 0), (108, 1, 0, .aload_n 0), (109, 3, 26, .getfield 332), (112, 1, 0, .aload_n 0), (113, 3, 57, .getfield 333), (116, 1, 0, .iconst (1)), (117, 1, 0, .isub), (118, 1, 0, .aaload), (119, 3, 75, .invokevirtual 89), (122, 3, 0, .iinc 5 (1)), (125, 3, 0, .goto (-44)), (128, 1, 0, .aload_n 0), (129, 3, 60, .getfield 334), (132, 1, 0, .iconst (-1)), (133, 3, 0, .if_icmp .ne (7)), (136, 1, 0, .iconst (4)), (137, 3, 0, .goto (7)), (140, 1, 0, .aload_n 0), (141, 3, 60, .getfield 334), (144, 1, 0, .ireturn)]
abbrev mm_m_Ma_start : mm_M := (⟨"QualifierGate$Machine", "start", "(LQualifierGate$Method;II)I"⟩, prog_5_method_3_code, 6, some .int, (5, 3, false), (856, 854, 856, 84), mm_c_Ma_start)
def mm_c_Ma_enter : List mm_I := [(0, 1, 0, .aload_n 0), (1, 3, 26, .getfield 332), (4, 1, 0, .aload_n 0), (5, 3, 57, .getfield 333), (8, 1, 0, .aaload), (9, 1, 0, .astore_n 2), (10, 1, 0, .aload_n 2), (11, 1, 0, .aload_n 1), (12, 3, 79, .invokevirtual 82), (15, 1, 0, .aload_n 0), (16, 1, 0, .dup), (17, 3, 57, .getfield 333), (20, 1, 0, .iconst (1)), (21, 1, 0, .iadd), (22, 3, 57, .putfield 333), (25, 1, 0, .aload_n 0), (26, 1, 0, .aload_n 0), (27, 3, 54, .getfield 329), (30, 1, 0, .aload_n 0), (31, 3, 57, .getfield 333), (34, 3, 83, .invokestatic 1002), (37, 3, 54, .putfield 329), (40, 1, 0, .aload_n 2), (41, 1, 0, .areturn)]
abbrev mm_m_Ma_enter : mm_M := (⟨"QualifierGate$Machine", "enter", "(LQualifierGate$Method;)LQualifierGate$Activation;"⟩, prog_5_method_4_code, 3, some (.object "QualifierGate$Activation"), (5, 1, false), (860, 859, 22, 84), mm_c_Ma_enter)
def mm_c_Ma_perform : List mm_I := [(0, 1, 0, .aload_n 1), (1, 3, 89, .getfield 385), (4, 1, 0, .aload_n 1), (5, 3, 92, .getfield 384), (8, 3, 96, .getfield 521), (11, 3, 99, .invokestatic 123), (14, 3, 0, .ifCond .ne (10)), (17, 1, 0, .aload_n 0), (18, 2, 0, .bipush (6)), (20, 3, 60, .putfield 334), (23, 1, 0, .return_), (24, 1, 0, .aload_n 1), (25, 3, 92, .getfield 384), (28, 3, 103, .getfield 520), (31, 1, 0, .aload_n 1), (32, 3, 89, .getfield 385), (35, 1, 0, .iaload), (36, 1, 0, .istore_n 2), (37, 1, 0, .aload_n 1), (38, 3, 92, .getfield 384), (41, 3, 106, .getfield 519), (44, 1, 0, .aload_n 1), (45, 3, 89, .getfield 385), (48, 1, 0, .iaload), (49, 79, 0, .tableswitch (228) (0) (15) #[79, 87, 95, 108, 131, 149, 167, 228, 183, 228, 228, 228, 228, 196, 204, 204]), (128, 1, 0, .aload_n 1), (129, 1, 0, .iload_n 2), (130, 3, 109, .invokestatic 91), (133, 3, 0, .goto (150)), (136, 1, 0, .aload_n 1), (137, 1, 0, .iconst (0)), (138, 3, 109, .invokestatic 91), (141, 3, 0, .goto (142)), (144, 1, 0, .aload_n 1), (145, 1, 0, .aload_n 1), (146, 3, 72, .getfield 386), (149, 1, 0, .iload_n 2), (150, 1, 0, .iaload), (151, 3, 109, .invokestatic 91), (154, 3, 0, .goto (129)), (157, 1, 0, .aload_n 1), (158, 3, 72, .getfield 386), (161, 1, 0, .iload_n 2), (162, 1, 0, .aload_n 1), (163, 3, 113, .invokevirtual 84), (166, 1, 0, .iastore), (167, 1, 0, .aload_n 1), (168, 1, 0, .dup), (169, 3, 89, .getfield 385), (172, 1, 0, .iconst (1)), (173, 1, 0, .iadd), (174, 3, 89, .putfield 385), (177, 3, 0, .goto (106)), (180, 1, 0, .aload_n 1), (181, 3, 113, .invokevirtual 84), (184, 1, 0, .istore_n 3), (185, 1, 0, .aload_n 1), (186, 1, 0, .iload_n 3), (187, 3, 117, .invokevirtual 83), (190, 1, 0, .aload_n 1), (191, 1, 0, .iload_n 3), (192, 3, 109, .invokestatic 91), (195, 3, 0, .goto (88)), (198, 1, 0, .aload_n 1), (199, 3, 113, .invokevirtual 84), (202, 1, 0, .pop), (203, 1, 0, .aload_n 1), (204, 1, 0, .dup), (205, 3, 89, .getfield 385), (208, 1, 0, .iconst (1)), (209, 1, 0, .iadd), (210, 3, 89, .putfield 385), (213, 3, 0, .goto (70)), (216, 1, 0, .aload_n 1), (217, 1, 0, .aload_n 1), (218, 3, 113, .invokevirtual 84), (221, 1, 0, .aload_n 1), (222, 3, 113, .invokevirtual 84), (225, 1, 0, .iadd), (226, 3, 109, .invokestatic 91), (229, 3, 0, .goto (54)), (232, 1, 0, .aload_n 1), (233, 1, 0, .dup), (234, 3, 89, .getfield 385), (237, 1, 0, .iconst (1)), (238, 1, 0, .iadd), (239, 3, 89, .putfield 385), (242, 3, 0, .goto (41)), (245, 1, 0, .aload_n 1), (246, 1, 0, .iload_n 2), (247, 3, 89, .putfield 385), (250, 3, 0, .goto (33)), (253, 1, 0, .aload_n 1), (254, 1, 0, .aload_n 1), (255, 3, 113, .invokevirtual 84), (258, 3, 0, .ifCond .ne (7)), (261, 1, 0, .iload_n 2), (262, 3, 0, .goto (9)), (265, 1, 0, .aload_n 1), (266, 3, 89, .getfield 385), (269, 1, 0, .iconst (1)), (270, 1, 0, .iadd), (271, 3, 89, .putfield 385), (274, 3, 0, .goto (9)), (277, 1, 0, .aload_n 0), (278, 1, 0, .aload_n 1), (279, 1, 0, .iload_n 2), (280, 3, 121, .invokevirtual 90), (283, 1, 0, .return_)]
abbrev mm_m_Ma_perform : mm_M := (⟨"QualifierGate$Machine", "perform", "(LQualifierGate$Activation;)V"⟩, prog_5_method_5_code, 4, none, (5, 1, false), (871, 870, 23, 84), mm_c_Ma_perform)
def mm_c_Ma_performOnObjects : List mm_I := [(0, 1, 0, .aload_n 1), (1, 3, 92, .getfield 384), (4, 3, 106, .getfield 519), (7, 1, 0, .aload_n 1), (8, 3, 89, .getfield 385), (11, 1, 0, .iaload), (12, 56, 0, .tableswitch (117) (7) (16) #[56, 117, 65, 74, 83, 100, 117, 117, 117, 109]), (68, 1, 0, .aload_n 0), (69, 1, 0, .aload_n 1), (70, 1, 0, .iload_n 2), (71, 3, 124, .invokevirtual 93), (74, 3, 0, .goto (63)), (77, 1, 0, .aload_n 0), (78, 1, 0, .aload_n 1), (79, 1, 0, .iload_n 2), (80, 3, 127, .invokevirtual 94), (83, 3, 0, .goto (54)), (86, 1, 0, .aload_n 0), (87, 1, 0, .aload_n 1), (88, 1, 0, .iload_n 2), (89, 3, 130, .invokevirtual 95), (92, 3, 0, .goto (45)), (95, 1, 0, .aload_n 0), (96, 1, 0, .aload_n 1), (97, 1, 0, .aload_n 0), (98, 3, 30, .getfield 320), (101, 3, 133, .getfield 73), (104, 1, 0, .iload_n 2), (105, 1, 0, .aaload), (106, 3, 139, .invokevirtual 97), (109, 3, 0, .goto (28)), (112, 1, 0, .aload_n 0), (113, 1, 0, .aload_n 1), (114, 1, 0, .iload_n 2), (115, 3, 143, .invokevirtual 96), (118, 3, 0, .goto (19)), (121, 1, 0, .aload_n 0), (122, 1, 0, .aload_n 1), (123, 3, 146, .invokevirtual 99), (126, 3, 0, .goto (11)), (129, 1, 0, .aload_n 0), (130, 1, 0, .aload_n 1), (131, 3, 113, .invokevirtual 84), (134, 3, 149, .invokevirtual 101), (137, 1, 0, .return_)]
abbrev mm_m_Ma_performOnObjects : mm_M := (⟨"QualifierGate$Machine", "performOnObjects", "(LQualifierGate$Activation;I)V"⟩, prog_5_method_6_code, 3, none, (5, 2, false), (887, 886, 24, 84), mm_c_Ma_performOnObjects)
def mm_c_Ma_pushAndGoOn : List mm_I := [(0, 1, 0, .aload_n 0), (1, 1, 0, .iload_n 1), (2, 3, 117, .invokevirtual 83), (5, 1, 0, .aload_n 0), (6, 1, 0, .dup), (7, 3, 89, .getfield 385), (10, 1, 0, .iconst (1)), (11, 1, 0, .iadd), (12, 3, 89, .putfield 385), (15, 1, 0, .return_)]
abbrev mm_m_Ma_pushAndGoOn : mm_M := (⟨"QualifierGate$Machine", "pushAndGoOn", "(LQualifierGate$Activation;I)V"⟩, prog_5_method_7_code, 2, none, (5, 2, true), (875, 874, 0, 84), mm_c_Ma_pushAndGoOn)
def mm_c_Ma_isObject : List mm_I := [(0, 1, 0, .iload_n 1), (1, 3, 0, .ifCond .le (15)), (4, 1, 0, .iload_n 1), (5, 1, 0, .aload_n 0), (6, 3, 45, .getfield 326), (9, 3, 0, .if_icmp .gt (7)), (12, 1, 0, .iconst (1)), (13, 3, 0, .goto (4)), (16, 1, 0, .iconst (0)), (17, 1, 0, .ireturn)]
abbrev mm_m_Ma_isObject : mm_M := (⟨"QualifierGate$Machine", "isObject", "(I)Z"⟩, prog_5_method_8_code, 2, some .boolean, (5, 1, false), (899, 898, 27, 84), mm_c_Ma_isObject)
def mm_c_Ma_makeObject : List mm_I := [(0, 1, 0, .aload_n 0), (1, 3, 30, .getfield 320), (4, 3, 152, .getfield 67), (7, 1, 0, .iload_n 2), (8, 1, 0, .baload), (9, 3, 0, .ifCond .ne (9)), (12, 1, 0, .aload_n 0), (13, 1, 0, .iconst (5)), (14, 3, 60, .putfield 334), (17, 1, 0, .return_), (18, 1, 0, .aload_n 0), (19, 3, 45, .getfield 326), (22, 2, 0, .bipush (24)), (24, 3, 0, .if_icmp .ne (9)), (27, 1, 0, .aload_n 0), (28, 1, 0, .iconst (2)), (29, 3, 60, .putfield 334), (32, 1, 0, .return_), (33, 1, 0, .aload_n 0), (34, 3, 18, .getfield 330), (37, 1, 0, .aload_n 0), (38, 3, 45, .getfield 326), (41, 1, 0, .iload_n 2), (42, 1, 0, .iastore), (43, 1, 0, .iconst (0)), (44, 1, 0, .istore_n 3), (45, 1, 0, .iload_n 3), (46, 2, 0, .bipush (12)), (48, 3, 0, .if_icmp .ge (24)), (51, 1, 0, .aload_n 0), (52, 3, 21, .getfield 331), (55, 1, 0, .aload_n 0), (56, 3, 45, .getfield 326), (59, 2, 0, .bipush (12)), (61, 1, 0, .imul), (62, 1, 0, .iload_n 3), (63, 1, 0, .iadd), (64, 1, 0, .iconst (0)), (65, 1, 0, .iastore), (66, 3, 0, .iinc 3 (1)), (69, 3, 0, .goto (-24)), (72, 1, 0, .aload_n 0), (73, 1, 0, .dup), (74, 3, 45, .getfield 326), (77, 1, 0, .iconst (1)), (78, 1, 0, .iadd), (79, 3, 45, .putfield 326), (82, 1, 0, .aload_n 1), (83, 1, 0, .aload_n 0), (84, 3, 45, .getfield 326), (87, 3, 109, .invokestatic 91), (90, 1, 0, .return_)]
abbrev mm_m_Ma_makeObject : mm_M := (⟨"QualifierGate$Machine", "makeObject", "(LQualifierGate$Activation;I)V"⟩, prog_5_method_9_code, 4, none, (5, 2, false), (891, 890, 25, 84), mm_c_Ma_makeObject)
def mm_c_Ma_get : List mm_I := [(0, 1, 0, .aload_n 1), (1, 3, 113, .invokevirtual 84), (4, 1, 0, .istore_n 3), (5, 1, 0, .aload_n 0), (6, 1, 0, .iload_n 3), (7, 3, 156, .invokevirtual 92), (10, 3, 0, .ifCond .ne (10)), (13, 1, 0, .aload_n 0), (14, 2, 0, .bipush (6)), (16, 3, 60, .putfield 334), (19, 1, 0, .return_), (20, 1, 0, .aload_n 1), (21, 1, 0, .aload_n 0), (22, 3, 21, .getfield 331), (25, 1, 0, .iload_n 3), (26, 1, 0, .iconst (1)), (27, 1, 0, .isub), (28, 2, 0, .bipush (12)), (30, 1, 0, .imul), (31, 1, 0, .iload_n 2), (32, 1, 0, .iadd), (33, 1, 0, .iaload), (34, 3, 109, .invokestatic 91), (37, 1, 0, .return_)]
abbrev mm_m_Ma_get : mm_M := (⟨"QualifierGate$Machine", "get", "(LQualifierGate$Activation;I)V"⟩, prog_5_method_10_code, 4, none, (5, 2, false), (895, 894, 26, 84), mm_c_Ma_get)
def mm_c_Ma_put : List mm_I := [(0, 1, 0, .aload_n 1), (1, 3, 113, .invokevirtual 84), (4, 1, 0, .istore_n 3), (5, 1, 0, .aload_n 1), (6, 3, 113, .invokevirtual 84), (9, 2, 0, .istore 4), (11, 1, 0, .aload_n 0), (12, 2, 0, .iload 4), (14, 3, 156, .invokevirtual 92), (17, 3, 0, .ifCond .ne (10)), (20, 1, 0, .aload_n 0), (21, 2, 0, .bipush (6)), (23, 3, 60, .putfield 334), (26, 1, 0, .return_), (27, 1, 0, .aload_n 0), (28, 3, 21, .getfield 331), (31, 2, 0, .iload 4), (33, 1, 0, .iconst (1)), (34, 1, 0, .isub), (35, 2, 0, .bipush (12)), (37, 1, 0, .imul), (38, 1, 0, .iload_n 2), (39, 1, 0, .iadd), (40, 1, 0, .iload_n 3), (41, 1, 0, .iastore), (42, 1, 0, .aload_n 1), (43, 1, 0, .dup), (44, 3, 89, .getfield 385), (47, 1, 0, .iconst (1)), (48, 1, 0, .iadd), (49, 3, 89, .putfield 385), (52, 1, 0, .return_)]
abbrev mm_m_Ma_put : mm_M := (⟨"QualifierGate$Machine", "put", "(LQualifierGate$Activation;I)V"⟩, prog_5_method_11_code, 5, none, (5, 2, false), (903, 902, 28, 84), mm_c_Ma_put)
def mm_c_Ma_cast : List mm_I := [(0, 1, 0, .aload_n 1), (1, 3, 113, .invokevirtual 84), (4, 1, 0, .istore_n 3), (5, 1, 0, .aload_n 0), (6, 1, 0, .iload_n 3), (7, 3, 156, .invokevirtual 92), (10, 3, 0, .ifCond .eq (30)), (13, 1, 0, .aload_n 0), (14, 3, 30, .getfield 320), (17, 1, 0, .aload_n 0), (18, 3, 18, .getfield 330), (21, 1, 0, .iload_n 3), (22, 1, 0, .iconst (1)), (23, 1, 0, .isub), (24, 1, 0, .iaload), (25, 1, 0, .iload_n 2), (26, 3, 160, .invokevirtual 35), (29, 3, 0, .ifCond .ne (11)), (32, 1, 0, .aload_n 0), (33, 1, 0, .iload_n 3), (34, 3, 149, .invokevirtual 101), (37, 3, 0, .goto (8)), (40, 1, 0, .aload_n 1), (41, 1, 0, .iload_n 3), (42, 3, 109, .invokestatic 91), (45, 1, 0, .return_)]
abbrev mm_m_Ma_cast : mm_M := (⟨"QualifierGate$Machine", "cast", "(LQualifierGate$Activation;I)V"⟩, prog_5_method_12_code, 4, none, (5, 2, false), (921, 920, 31, 84), mm_c_Ma_cast)
def mm_c_Ma_call : List mm_I := [(0, 1, 0, .iconst (0)), (1, 1, 0, .aload_n 1), (2, 3, 163, .getfield 388), (5, 1, 0, .aload_n 2), (6, 3, 166, .invokevirtual 24), (9, 1, 0, .isub), (10, 3, 83, .invokestatic 1002), (13, 1, 0, .istore_n 3), (14, 1, 0, .aload_n 2), (15, 2, 0, .astore 4), (17, 1, 0, .aload_n 2), (18, 3, 169, .getfield 514), (21, 3, 0, .ifCond .ne (50)), (24, 1, 0, .aload_n 1), (25, 3, 173, .getfield 387), (28, 1, 0, .iload_n 3), (29, 1, 0, .iconst (3)), (30, 3, 176, .invokestatic 1003), (33, 1, 0, .iaload), (34, 2, 0, .istore 5), (36, 1, 0, .aload_n 0), (37, 2, 0, .iload 5), (39, 3, 156, .invokevirtual 92), (42, 3, 0, .ifCond .eq (26)), (45, 1, 0, .aload_n 0), (46, 3, 30, .getfield 320), (49, 1, 0, .aload_n 0), (50, 3, 18, .getfield 330), (53, 2, 0, .iload 5), (55, 1, 0, .iconst (1)), (56, 1, 0, .isub), (57, 1, 0, .iaload), (58, 1, 0, .aload_n 2), (59, 3, 179, .getfield 513), (62, 3, 182, .invokevirtual 38), (65, 3, 0, .goto (4)), (68, 1, 0, .aconst_null), (69, 2, 0, .astore 4), (71, 2, 0, .aload 4), (73, 3, 0, .ifnonnull (12)), (76, 1, 0, .aload_n 0), (77, 2, 0, .bipush (6)), (79, 3, 60, .putfield 334), (82, 3, 0, .goto (96)), (85, 1, 0, .aload_n 0), (86, 3, 30, .getfield 320), (89, 3, 152, .getfield 67), (92, 2, 0, .aload 4), (94, 3, 186, .getfield 512), (97, 1, 0, .baload), (98, 3, 0, .ifCond .ne (11)), (101, 1, 0, .aload_n 0), (102, 1, 0, .iconst (5)), (103, 3, 60, .putfield 334), (106, 3, 0, .goto (72)), (109, 2, 0, .aload 4), (111, 3, 189, .invokevirtual 22), (114, 3, 0, .ifCond .eq (14)), (117, 1, 0, .aload_n 0), (118, 1, 0, .aload_n 1), (119, 2, 0, .aload 4), (121, 1, 0, .iload_n 3), (122, 3, 193, .invokevirtual 98), (125, 3, 0, .goto (53)), (128, 1, 0, .aload_n 0), (129, 3, 57, .getfield 333), (132, 2, 0, .bipush (6)), (134, 3, 0, .if_icmp .ne (11)), (137, 1, 0, .aload_n 0), (138, 1, 0, .iconst (3)), (139, 3, 60, .putfield 334), (142, 3, 0, .goto (36)), (145, 1, 0, .aload_n 0), (146, 2, 0, .aload 4), (148, 3, 63, .invokevirtual 88), (151, 2, 0, .astore 5), (153, 1, 0, .aload_n 1), (154, 3, 173, .getfield 387), (157, 1, 0, .iload_n 3), (158, 2, 0, .aload 5), (160, 3, 72, .getfield 386), (163, 1, 0, .iconst (0)), (164, 1, 0, .aload_n 1), (165, 3, 163, .getfield 388), (168, 1, 0, .iload_n 3), (169, 1, 0, .isub), (170, 3, 197, .invokestatic 1001), (173, 1, 0, .aload_n 1), (174, 1, 0, .iload_n 3), (175, 3, 163, .putfield 388), (178, 1, 0, .return_)]
abbrev mm_m_Ma_call : mm_M := (⟨"QualifierGate$Machine", "call", "(LQualifierGate$Activation;LQualifierGate$Method;)V"⟩, prog_5_method_13_code, 6, none, (5, 2, false), (907, 906, 29, 84), mm_c_Ma_call)
def mm_c_Ma_callBuiltIn : List mm_I := [(0, 1, 0, .aload_n 1), (1, 3, 173, .getfield 387), (4, 1, 0, .iload_n 3), (5, 1, 0, .aload_n 2), (6, 3, 203, .invokevirtual 25), (9, 1, 0, .iadd), (10, 1, 0, .iconst (3)), (11, 3, 176, .invokestatic 1003), (14, 1, 0, .iaload), (15, 2, 0, .istore 4), (17, 1, 0, .aload_n 1), (18, 1, 0, .iload_n 3), (19, 3, 163, .putfield 388), (22, 1, 0, .aload_n 1), (23, 1, 0, .dup), (24, 3, 89, .getfield 385), (27, 1, 0, .iconst (1)), (28, 1, 0, .iadd), (29, 3, 89, .putfield 385), (32, 1, 0, .aload_n 2), (33, 3, 206, .getfield 518), (36, 28, 0, .lookupswitch (102) #[(0, 28), (1, 69)]), (64, 1, 0, .aload_n 1), (65, 1, 0, .aload_n 0), (66, 3, 51, .getfield 328), (69, 1, 0, .aload_n 0), (70, 3, 35, .getfield 322), (73, 3, 0, .if_icmp .ge (15)), (76, 1, 0, .aload_n 0), (77, 3, 9, .getfield 321), (80, 1, 0, .aload_n 0), (81, 3, 51, .getfield 328), (84, 1, 0, .iaload), (85, 3, 0, .goto (4)), (88, 1, 0, .iconst (0)), (89, 3, 117, .invokevirtual 83), (92, 1, 0, .aload_n 0), (93, 1, 0, .dup), (94, 3, 51, .getfield 328), (97, 1, 0, .iconst (1)), (98, 1, 0, .iadd), (99, 3, 51, .putfield 328), (102, 3, 0, .goto (42)), (105, 1, 0, .aload_n 0), (106, 3, 48, .getfield 327), (109, 2, 0, .bipush (16)), (111, 3, 0, .if_icmp .ge (14)), (114, 1, 0, .aload_n 0), (115, 3, 15, .getfield 323), (118, 1, 0, .aload_n 0), (119, 3, 48, .getfield 327), (122, 2, 0, .iload 4), (124, 1, 0, .iastore), (125, 1, 0, .aload_n 0), (126, 1, 0, .dup), (127, 3, 48, .getfield 327), (130, 1, 0, .iconst (1)), (131, 1, 0, .iadd), (132, 3, 48, .putfield 327), (135, 3, 0, .goto (9)), (138, 1, 0, .aload_n 1), (139, 2, 0, .iload 4), (141, 3, 117, .invokevirtual 83), (144, 1, 0, .return_)]
abbrev mm_m_Ma_callBuiltIn : mm_M := (⟨"QualifierGate$Machine", "callBuiltIn", "(LQualifierGate$Activation;LQualifierGate$Method;I)V"⟩, prog_5_method_14_code, 5, none, (5, 3, false), (915, 914, 30, 84), mm_c_Ma_callBuiltIn)
def mm_c_Ma_give : List mm_I := [(0, 1, 0, .aload_n 1), (1, 3, 92, .getfield 384), (4, 3, 209, .invokevirtual 23), (7, 1, 0, .istore_n 2), (8, 1, 0, .iload_n 2), (9, 3, 0, .ifCond .eq (10)), (12, 1, 0, .aload_n 1), (13, 3, 113, .invokevirtual 84), (16, 3, 0, .goto (4)), (19, 1, 0, .iconst (0)), (20, 1, 0, .istore_n 3), (21, 1, 0, .aload_n 0), (22, 1, 0, .dup), (23, 3, 57, .getfield 333), (26, 1, 0, .iconst (1)), (27, 1, 0, .isub), (28, 3, 57, .putfield 333), (31, 1, 0, .aload_n 0), (32, 3, 57, .getfield 333), (35, 3, 0, .ifCond .ne (40)), (38, 1, 0, .aload_n 0), (39, 1, 0, .iconst (0)), (40, 3, 60, .putfield 334), (43, 1, 0, .aload_n 0), (44, 1, 0, .iload_n 2), (45, 3, 0, .ifCond .eq (25)), (48, 1, 0, .aload_n 1), (49, 3, 92, .getfield 384), (52, 3, 212, .getfield 517), (55, 3, 216, .getfield 448), (58, 1, 0, .iconst (-1)), (59, 3, 0, .if_icmp .eq (11)), (62, 1, 0, .aload_n 0), (63, 1, 0, .iload_n 3), (64, 3, 221, .invokevirtual 100), (67, 3, 0, .goto (4)), (70, 1, 0, .iload_n 3), (71, 3, 39, .putfield 324), (74, 1, 0, .return_), (75, 1, 0, .aload_n 0), (76, 3, 26, .getfield 332), (79, 1, 0, .aload_n 0), (80, 3, 57, .getfield 333), (83, 1, 0, .iconst (1)), (84, 1, 0, .isub), (85, 1, 0, .aaload), (86, 2, 0, .astore 4), (88, 1, 0, .iload_n 2), (89, 3, 0, .ifCond .eq (9)), (92, 2, 0, .aload 4), (94, 1, 0, .iload_n 3), (95, 3, 117, .invokevirtual 83), (98, 2, 0, .aload 4), (100, 1, 0, .dup), (101, 3, 89, .getfield 385), (104, 1, 0, .iconst (1)), (105, 1, 0, .iadd), (106, 3, 89, .putfield 385), (109, 1, 0, .return_)]
abbrev mm_m_Ma_give : mm_M := (⟨"QualifierGate$Machine", "give", "(LQualifierGate$Activation;)V"⟩, prog_5_method_15_code, 5, none, (5, 1, false), (935, 934, 34, 84), mm_c_Ma_give)
def mm_c_Ma_classOf : List mm_I := [(0, 1, 0, .aload_n 0), (1, 1, 0, .iload_n 1), (2, 3, 156, .invokevirtual 92), (5, 3, 0, .ifCond .eq (14)), (8, 1, 0, .aload_n 0), (9, 3, 18, .getfield 330), (12, 1, 0, .iload_n 1), (13, 1, 0, .iconst (1)), (14, 1, 0, .isub), (15, 1, 0, .iaload), (16, 3, 0, .goto (4)), (19, 1, 0, .iconst (-1)), (20, 1, 0, .ireturn)]
abbrev mm_m_Ma_classOf : mm_M := (⟨"QualifierGate$Machine", "classOf", "(I)I"⟩, prog_5_method_16_code, 2, some .int, (5, 1, false), (931, 930, 33, 84), mm_c_Ma_classOf)
def mm_c_Ma_raise : List mm_I := [(0, 1, 0, .aload_n 0), (1, 1, 0, .iload_n 1), (2, 3, 156, .invokevirtual 92), (5, 3, 0, .ifCond .ne (10)), (8, 1, 0, .aload_n 0), (9, 2, 0, .bipush (6)), (11, 3, 60, .putfield 334), (14, 1, 0, .return_), (15, 1, 0, .aload_n 0), (16, 3, 57, .getfield 333), (19, 1, 0, .istore_n 2), (20, 1, 0, .iload_n 2), (21, 3, 0, .ifCond .le (59)), (24, 1, 0, .aload_n 0), (25, 3, 26, .getfield 332), (28, 1, 0, .iload_n 2), (29, 1, 0, .iconst (1)), (30, 1, 0, .isub), (31, 1, 0, .aaload), (32, 1, 0, .astore_n 3), (33, 1, 0, .aload_n 3), (34, 3, 92, .getfield 384), (37, 1, 0, .aload_n 3), (38, 3, 89, .getfield 385), (41, 3, 225, .invokevirtual 26), (44, 2, 0, .istore 4), (46, 2, 0, .iload 4), (48, 1, 0, .iconst (-1)), (49, 3, 0, .if_icmp .eq (25)), (52, 1, 0, .aload_n 0), (53, 1, 0, .iload_n 2), (54, 3, 57, .putfield 333), (57, 1, 0, .aload_n 3), (58, 1, 0, .iconst (0)), (59, 3, 163, .putfield 388), (62, 1, 0, .aload_n 3), (63, 1, 0, .iload_n 1), (64, 3, 117, .invokevirtual 83), (67, 1, 0, .aload_n 3), (68, 2, 0, .iload 4), (70, 3, 89, .putfield 385), (73, 1, 0, .return_), (74, 3, 0, .iinc 2 (-1)), (77, 3, 0, .goto (-57)), (80, 1, 0, .aload_n 0), (81, 1, 0, .iconst (1)), (82, 3, 60, .putfield 334), (85, 1, 0, .aload_n 0), (86, 1, 0, .aload_n 0), (87, 1, 0, .iload_n 1), (88, 3, 221, .invokevirtual 100), (91, 3, 39, .putfield 324), (94, 1, 0, .return_)]
abbrev mm_m_Ma_raise : mm_M := (⟨"QualifierGate$Machine", "raise", "(I)V"⟩, prog_5_method_17_code, 5, none, (5, 1, false), (926, 925, 32, 84), mm_c_Ma_raise)
def mm_c_Ga_init : List mm_I := [(0, 1, 0, .aload_n 0), (1, 3, 1, .invokespecial 1000), (4, 1, 0, .aload_n 0), (5, 3, 7, .new 1), (8, 1, 0, .dup), (9, 3, 9, .invokespecial 27), (12, 3, 10, .putfield 0), (15, 1, 0, .aload_n 0), (16, 3, 16, .new 2), (19, 1, 0, .dup), (20, 1, 0, .aload_n 0), (21, 3, 10, .getfield 0), (24, 3, 18, .invokespecial 66), (27, 3, 21, .putfield 1), (30, 1, 0, .aload_n 0), (31, 3, 25, .new 5), (34, 1, 0, .dup), (35, 1, 0, .aload_n 0), (36, 3, 10, .getfield 0), (39, 3, 27, .invokespecial 85), (42, 3, 28, .putfield 2), (45, 1, 0, .aload_n 0), (46, 1, 0, .iconst (-1)), (47, 3, 32, .putfield 3), (50, 1, 0, .return_)]
abbrev mm_m_Ga_init : mm_M := (⟨"QualifierGate", "<init>", "()V"⟩, prog_1_method_1_code, 1, none, (0, 0, false), (97, 96, 0, 79), mm_c_Ga_init)
def mm_c_Ga_cls : List mm_I := [(0, 1, 0, .aload_n 0), (1, 3, 10, .getfield 0), (4, 3, 36, .getfield 68), (7, 3, 0, .ifCond .eq (6)), (10, 2, 0, .bipush (-3)), (12, 1, 0, .ireturn), (13, 1, 0, .aload_n 0), (14, 3, 10, .getfield 0), (17, 1, 0, .iload_n 1), (18, 3, 40, .invokevirtual 31), (21, 3, 0, .ifCond .ne (5)), (24, 1, 0, .iconst (-1)), (25, 1, 0, .ireturn), (26, 1, 0, .aload_n 0), (27, 3, 10, .getfield 0), (30, 3, 44, .getfield 64), (33, 2, 0, .bipush (6)), (35, 3, 0, .if_icmp .ne (8)), (38, 2, 0, .bipush (-2)), (40, 3, 0, .goto (11)), (43, 1, 0, .aload_n 0), (44, 3, 10, .getfield 0), (47, 1, 0, .iload_n 1), (48, 3, 47, .invokevirtual 28), (51, 1, 0, .ireturn)]
abbrev mm_m_Ga_cls : mm_M := (⟨"QualifierGate", "cls", "(I)I"⟩, prog_1_method_2_code, 2, some .int, (0, 1, false), (336, 334, 336, 79), mm_c_Ga_cls)
def mm_c_Ga_field : List mm_I := [(0, 1, 0, .aload_n 0), (1, 3, 10, .getfield 0), (4, 3, 36, .getfield 68), (7, 3, 0, .ifCond .eq (6)), (10, 2, 0, .bipush (-3)), (12, 1, 0, .ireturn), (13, 1, 0, .aload_n 0), (14, 3, 10, .getfield 0), (17, 1, 0, .iload_n 1), (18, 3, 40, .invokevirtual 31), (21, 3, 0, .ifCond .eq (16)), (24, 1, 0, .aload_n 0), (25, 3, 10, .getfield 0), (28, 1, 0, .iload_n 2), (29, 2, 0, .iload 4), (31, 3, 51, .invokevirtual 33), (34, 3, 0, .ifCond .ne (5)), (37, 1, 0, .iconst (-1)), (38, 1, 0, .ireturn), (39, 1, 0, .aload_n 0), (40, 3, 10, .getfield 0), (43, 3, 55, .getfield 69), (46, 2, 0, .bipush (12)), (48, 3, 0, .if_icmp .ne (8)), (51, 2, 0, .bipush (-2)), (53, 3, 0, .goto (22)), (56, 1, 0, .aload_n 0), (57, 3, 10, .getfield 0), (60, 1, 0, .iload_n 1), (61, 3, 58, .new 7), (64, 1, 0, .dup), (65, 1, 0, .iload_n 2), (66, 1, 0, .iload_n 3), (67, 2, 0, .iload 4), (69, 3, 60, .invokespecial 15), (72, 3, 63, .invokevirtual 29), (75, 1, 0, .ireturn)]
abbrev mm_m_Ga_field : mm_M := (⟨"QualifierGate", "field", "(IIZI)I"⟩, prog_1_method_3_code, 5, some .int, (0, 4, false), (351, 349, 351, 79), mm_c_Ga_field)
def mm_c_Ga_method : List mm_I := [(0, 1, 0, .aload_n 0), (1, 3, 10, .getfield 0), (4, 3, 36, .getfield 68), (7, 3, 0, .ifCond .eq (6)), (10, 2, 0, .bipush (-3)), (12, 1, 0, .ireturn), (13, 1, 0, .aload_n 0), (14, 3, 10, .getfield 0), (17, 1, 0, .iload_n 1), (18, 3, 40, .invokevirtual 31), (21, 3, 0, .ifCond .eq (24)), (24, 1, 0, .iload_n 2), (25, 2, 0, .bipush (6)), (27, 3, 67, .invokestatic 123), (30, 3, 0, .ifCond .eq (15)), (33, 1, 0, .aload_n 0), (34, 3, 10, .getfield 0), (37, 1, 0, .iload_n 1), (38, 1, 0, .iload_n 2), (39, 3, 70, .invokevirtual 37), (42, 3, 0, .ifnull (5)), (45, 1, 0, .iconst (-1)), (46, 1, 0, .ireturn), (47, 1, 0, .aload_n 0), (48, 3, 10, .getfield 0), (51, 3, 74, .getfield 72), (54, 2, 0, .bipush (10)), (56, 3, 0, .if_icmp .ne (8)), (59, 2, 0, .bipush (-2)), (61, 3, 0, .goto (20)), (64, 1, 0, .aload_n 0), (65, 3, 10, .getfield 0), (68, 3, 77, .new 8), (71, 1, 0, .dup), (72, 1, 0, .iload_n 1), (73, 1, 0, .iload_n 2), (74, 1, 0, .iload_n 3), (75, 3, 79, .invokespecial 17), (78, 3, 82, .invokevirtual 30), (81, 1, 0, .ireturn)]
abbrev mm_m_Ga_method : mm_M := (⟨"QualifierGate", "method", "(IIZ)I"⟩, prog_1_method_4_code, 4, some .int, (0, 3, false), (393, 391, 393, 79), mm_c_Ga_method)
def mm_c_Ga_param : List mm_I := [(0, 1, 0, .aload_n 0), (1, 3, 10, .getfield 0), (4, 3, 36, .getfield 68), (7, 3, 0, .ifCond .eq (6)), (10, 2, 0, .bipush (-3)), (12, 1, 0, .ireturn), (13, 1, 0, .aload_n 0), (14, 3, 10, .getfield 0), (17, 1, 0, .iload_n 1), (18, 3, 86, .invokevirtual 32), (21, 3, 0, .ifCond .eq (16)), (24, 1, 0, .aload_n 0), (25, 3, 10, .getfield 0), (28, 1, 0, .iload_n 2), (29, 2, 0, .iload 4), (31, 3, 51, .invokevirtual 33), (34, 3, 0, .ifCond .ne (5)), (37, 1, 0, .iconst (-1)), (38, 1, 0, .ireturn), (39, 1, 0, .aload_n 0), (40, 3, 10, .getfield 0), (43, 3, 89, .getfield 73), (46, 1, 0, .iload_n 1), (47, 1, 0, .aaload), (48, 2, 0, .astore 5), (50, 2, 0, .aload 5), (52, 3, 93, .getfield 516), (55, 1, 0, .iconst (3)), (56, 3, 0, .if_icmp .ne (8)), (59, 2, 0, .bipush (-2)), (61, 3, 0, .goto (19)), (64, 2, 0, .aload 5), (66, 3, 58, .new 7), (69, 1, 0, .dup), (70, 1, 0, .iload_n 2), (71, 1, 0, .iload_n 3), (72, 2, 0, .iload 4), (74, 3, 60, .invokespecial 15), (77, 3, 96, .invokevirtual 18), (80, 1, 0, .ireturn)]
abbrev mm_m_Ga_param : mm_M := (⟨"QualifierGate", "param", "(IIZI)I"⟩, prog_1_method_5_code, 6, some .int, (0, 4, false), (497, 495, 497, 79), mm_c_Ga_param)
def mm_c_Ga_result : List mm_I := [(0, 1, 0, .iload_n 2), (1, 2, 0, .bipush (-2)), (3, 3, 0, .if_icmp .ne (13)), (6, 2, 0, .iload 4), (8, 2, 0, .bipush (16)), (10, 3, 67, .invokestatic 123), (13, 3, 0, .goto (13)), (16, 1, 0, .aload_n 0), (17, 3, 10, .getfield 0), (20, 1, 0, .iload_n 2), (21, 2, 0, .iload 4), (23, 3, 51, .invokevirtual 33), (26, 2, 0, .istore 5), (28, 1, 0, .aload_n 0), (29, 3, 10, .getfield 0), (32, 3, 36, .getfield 68), (35, 3, 0, .ifCond .ne (19)), (38, 1, 0, .aload_n 0), (39, 3, 10, .getfield 0), (42, 1, 0, .iload_n 1), (43, 3, 86, .invokevirtual 32), (46, 3, 0, .ifCond .eq (8)), (49, 2, 0, .iload 5), (51, 3, 0, .ifCond .ne (5)), (54, 1, 0, .iconst (0)), (55, 1, 0, .ireturn), (56, 1, 0, .aload_n 0), (57, 3, 10, .getfield 0), (60, 3, 89, .getfield 73), (63, 1, 0, .iload_n 1), (64, 1, 0, .aaload), (65, 3, 100, .getfield 517), (68, 1, 0, .iload_n 2), (69, 1, 0, .iload_n 3), (70, 2, 0, .iload 4), (72, 3, 104, .invokevirtual 16), (75, 1, 0, .iconst (1)), (76, 1, 0, .ireturn)]
abbrev mm_m_Ga_result : mm_M := (⟨"QualifierGate", "result", "(IIZI)Z"⟩, prog_1_method_6_code, 6, some .boolean, (0, 4, false), (509, 507, 509, 79), mm_c_Ga_result)
def mm_c_Ga_builtIn : List mm_I := [(0, 1, 0, .aload_n 0), (1, 3, 10, .getfield 0), (4, 3, 36, .getfield 68), (7, 3, 0, .ifCond .ne (24)), (10, 1, 0, .aload_n 0), (11, 3, 10, .getfield 0), (14, 1, 0, .iload_n 1), (15, 3, 86, .invokevirtual 32), (18, 3, 0, .ifCond .eq (13)), (21, 1, 0, .iload_n 2), (22, 1, 0, .iconst (-1)), (23, 3, 0, .if_icmp .lt (8)), (26, 1, 0, .iload_n 2), (27, 1, 0, .iconst (2)), (28, 3, 0, .if_icmp .le (5)), (31, 1, 0, .iconst (0)), (32, 1, 0, .ireturn), (33, 1, 0, .aload_n 0), (34, 3, 10, .getfield 0), (37, 3, 89, .getfield 73), (40, 1, 0, .iload_n 1), (41, 1, 0, .aaload), (42, 1, 0, .iload_n 2), (43, 3, 107, .putfield 518), (46, 1, 0, .iconst (1)), (47, 1, 0, .ireturn)]
abbrev mm_m_Ga_builtIn : mm_M := (⟨"QualifierGate", "builtIn", "(II)Z"⟩, prog_1_method_7_code, 3, some .boolean, (0, 2, false), (514, 512, 514, 79), mm_c_Ga_builtIn)
def mm_c_Ga_add : List mm_I := [(0, 1, 0, .aload_n 0), (1, 3, 10, .getfield 0), (4, 3, 36, .getfield 68), (7, 3, 0, .ifCond .eq (6)), (10, 2, 0, .bipush (-3)), (12, 1, 0, .ireturn), (13, 1, 0, .aload_n 0), (14, 3, 10, .getfield 0), (17, 1, 0, .iload_n 1), (18, 3, 86, .invokevirtual 32), (21, 3, 0, .ifCond .eq (24)), (24, 1, 0, .iload_n 2), (25, 2, 0, .bipush (18)), (27, 3, 67, .invokestatic 123), (30, 3, 0, .ifCond .eq (15)), (33, 1, 0, .aload_n 0), (34, 3, 10, .getfield 0), (37, 1, 0, .iload_n 2), (38, 1, 0, .iload_n 3), (39, 3, 112, .invokevirtual 34), (42, 3, 0, .ifCond .ne (5)), (45, 1, 0, .iconst (-1)), (46, 1, 0, .ireturn), (47, 1, 0, .aload_n 0), (48, 3, 10, .getfield 0), (51, 3, 89, .getfield 73), (54, 1, 0, .iload_n 1), (55, 1, 0, .aaload), (56, 2, 0, .astore 4), (58, 2, 0, .aload 4), (60, 3, 115, .getfield 521), (63, 2, 0, .bipush (20)), (65, 3, 0, .if_icmp .ne (8)), (68, 2, 0, .bipush (-2)), (70, 3, 0, .goto (10)), (73, 2, 0, .aload 4), (75, 1, 0, .iload_n 2), (76, 1, 0, .iload_n 3), (77, 3, 118, .invokevirtual 19), (80, 1, 0, .ireturn)]
abbrev mm_m_Ga_add : mm_M := (⟨"QualifierGate", "add", "(III)I"⟩, prog_1_method_8_code, 5, some .int, (0, 3, false), (518, 516, 518, 79), mm_c_Ga_add)
def mm_c_Ga_guard : List mm_I := [(0, 1, 0, .aload_n 0), (1, 3, 10, .getfield 0), (4, 3, 36, .getfield 68), (7, 3, 0, .ifCond .eq (6)), (10, 2, 0, .bipush (-3)), (12, 1, 0, .ireturn), (13, 1, 0, .iload_n 2), (14, 2, 0, .bipush (20)), (16, 3, 67, .invokestatic 123), (19, 3, 0, .ifCond .eq (26)), (22, 1, 0, .iload_n 3), (23, 2, 0, .bipush (20)), (25, 3, 67, .invokestatic 123), (28, 3, 0, .ifCond .eq (17)), (31, 2, 0, .iload 4), (33, 2, 0, .bipush (20)), (35, 3, 67, .invokestatic 123), (38, 3, 0, .ifCond .eq (7)), (41, 1, 0, .iconst (1)), (42, 3, 0, .goto (4)), (45, 1, 0, .iconst (0)), (46, 2, 0, .istore 5), (48, 1, 0, .aload_n 0), (49, 3, 10, .getfield 0), (52, 1, 0, .iload_n 1), (53, 3, 86, .invokevirtual 32), (56, 3, 0, .ifCond .eq (13)), (59, 2, 0, .iload 5), (61, 3, 0, .ifCond .eq (8)), (64, 1, 0, .iload_n 2), (65, 1, 0, .iload_n 3), (66, 3, 0, .if_icmp .le (5)), (69, 1, 0, .iconst (-1)), (70, 1, 0, .ireturn), (71, 1, 0, .aload_n 0), (72, 3, 10, .getfield 0), (75, 3, 89, .getfield 73), (78, 1, 0, .iload_n 1), (79, 1, 0, .aaload), (80, 2, 0, .astore 6), (82, 2, 0, .aload 6), (84, 3, 122, .getfield 525), (87, 1, 0, .iconst (2)), (88, 3, 0, .if_icmp .ne (8)), (91, 2, 0, .bipush (-2)), (93, 3, 0, .goto (12)), (96, 2, 0, .aload 6), (98, 1, 0, .iload_n 2), (99, 1, 0, .iload_n 3), (100, 2, 0, .iload 4), (102, 3, 125, .invokevirtual 20), (105, 1, 0, .ireturn)]
abbrev mm_m_Ga_guard : mm_M := (⟨"QualifierGate", "guard", "(IIII)I"⟩, prog_1_method_9_code, 7, some .int, (0, 4, false), (531, 529, 531, 79), mm_c_Ga_guard)
def mm_c_Ga_wipe : List mm_I := [(0, 1, 0, .aload_n 0), (1, 3, 10, .getfield 0), (4, 3, 36, .getfield 68), (7, 3, 0, .ifCond .eq (6)), (10, 2, 0, .bipush (-3)), (12, 1, 0, .ireturn), (13, 1, 0, .aload_n 0), (14, 3, 10, .getfield 0), (17, 1, 0, .iload_n 1), (18, 3, 86, .invokevirtual 32), (21, 3, 0, .ifCond .eq (18)), (24, 1, 0, .aload_n 0), (25, 3, 10, .getfield 0), (28, 3, 89, .getfield 73), (31, 1, 0, .iload_n 1), (32, 1, 0, .aaload), (33, 3, 129, .invokevirtual 21), (36, 3, 0, .goto (4)), (39, 1, 0, .iconst (-1)), (40, 1, 0, .ireturn)]
abbrev mm_m_Ga_wipe : mm_M := (⟨"QualifierGate", "wipe", "(I)I"⟩, prog_1_method_10_code, 2, some .int, (0, 1, false), (539, 537, 539, 79), mm_c_Ga_wipe)
def mm_c_Ga_check : List mm_I := [(0, 1, 0, .aload_n 0), (1, 3, 10, .getfield 0), (4, 1, 0, .iload_n 1), (5, 3, 86, .invokevirtual 32), (8, 3, 0, .ifCond .ne (5)), (11, 1, 0, .iconst (-1)), (12, 1, 0, .ireturn), (13, 1, 0, .aload_n 0), (14, 3, 21, .getfield 1), (17, 1, 0, .aload_n 0), (18, 3, 10, .getfield 0), (21, 3, 89, .getfield 73), (24, 1, 0, .iload_n 1), (25, 1, 0, .aaload), (26, 3, 133, .invokevirtual 68), (29, 1, 0, .istore_n 2), (30, 1, 0, .aload_n 0), (31, 1, 0, .aload_n 0), (32, 1, 0, .iload_n 1), (33, 1, 0, .iload_n 2), (34, 3, 136, .invokevirtual 122), (37, 3, 32, .putfield 3), (40, 1, 0, .iload_n 2), (41, 1, 0, .ireturn)]
abbrev mm_m_Ga_check : mm_M := (⟨"QualifierGate", "check", "(I)I"⟩, prog_1_method_11_code, 3, some .int, (0, 1, false), (547, 545, 547, 79), mm_c_Ga_check)
def mm_c_Ga_load : List mm_I := [(0, 1, 0, .aload_n 0), (1, 3, 10, .getfield 0), (4, 1, 0, .iload_n 1), (5, 3, 40, .invokevirtual 31), (8, 3, 0, .ifCond .eq (15)), (11, 1, 0, .aload_n 0), (12, 3, 10, .getfield 0), (15, 3, 139, .getfield 67), (18, 1, 0, .iload_n 1), (19, 1, 0, .baload), (20, 3, 0, .ifCond .eq (5)), (23, 1, 0, .iconst (-1)), (24, 1, 0, .ireturn), (25, 1, 0, .iload_n 1), (26, 3, 0, .ifCond .eq (26)), (29, 1, 0, .aload_n 0), (30, 3, 10, .getfield 0), (33, 3, 139, .getfield 67), (36, 1, 0, .aload_n 0), (37, 3, 10, .getfield 0), (40, 3, 143, .getfield 65), (43, 1, 0, .iload_n 1), (44, 1, 0, .iaload), (45, 1, 0, .baload), (46, 3, 0, .ifCond .ne (6)), (49, 2, 0, .bipush (-4)), (51, 1, 0, .ireturn), (52, 1, 0, .aload_n 0), (53, 1, 0, .iconst (-1)), (54, 3, 32, .putfield 3), (57, 1, 0, .iconst (0)), (58, 1, 0, .istore_n 2), (59, 1, 0, .iload_n 2), (60, 1, 0, .aload_n 0), (61, 3, 10, .getfield 0), (64, 3, 74, .getfield 72), (67, 3, 0, .if_icmp .ge (72)), (70, 1, 0, .aload_n 0), (71, 3, 10, .getfield 0), (74, 3, 89, .getfield 73), (77, 1, 0, .iload_n 2), (78, 1, 0, .aaload), (79, 1, 0, .astore_n 3), (80, 1, 0, .aload_n 3), (81, 3, 147, .getfield 512), (84, 1, 0, .iload_n 1), (85, 3, 0, .if_icmp .ne (48)), (88, 1, 0, .aload_n 0), (89, 3, 21, .getfield 1), (92, 1, 0, .aload_n 3), (93, 3, 150, .invokevirtual 69), (96, 3, 0, .ifCond .eq (8)), (99, 2, 0, .bipush (10)), (101, 3, 0, .goto (11)), (104, 1, 0, .aload_n 0), (105, 3, 21, .getfield 1), (108, 1, 0, .aload_n 3), (109, 3, 133, .invokevirtual 68), (112, 2, 0, .istore 4), (114, 2, 0, .iload 4), (116, 3, 0, .ifCond .eq (17)), (119, 1, 0, .aload_n 0), (120, 1, 0, .aload_n 0), (121, 1, 0, .iload_n 2), (122, 2, 0, .iload 4), (124, 3, 136, .invokevirtual 122), (127, 3, 32, .putfield 3), (130, 2, 0, .iload 4), (132, 1, 0, .ireturn), (133, 3, 0, .iinc 2 (1)), (136, 3, 0, .goto (-77)), (139, 1, 0, .aload_n 0), (140, 3, 10, .getfield 0), (143, 3, 139, .getfield 67), (146, 1, 0, .iload_n 1), (147, 1, 0, .iconst (1)), (148, 1, 0, .bastore), (149, 1, 0, .aload_n 0), (150, 3, 10, .getfield 0), (153, 1, 0, .iconst (1)), (154, 3, 36, .putfield 68), (157, 1, 0, .iconst (0)), (158, 1, 0, .ireturn)]
abbrev mm_m_Ga_load : mm_M := (⟨"QualifierGate", "load", "(I)I"⟩, prog_1_method_12_code, 5, some .int, (0, 1, false), (798, 796, 798, 79), mm_c_Ga_load)
def mm_c_Ga_isLoaded : List mm_I := [(0, 1, 0, .aload_n 0), (1, 3, 10, .getfield 0), (4, 1, 0, .iload_n 1), (5, 3, 40, .invokevirtual 31), (8, 3, 0, .ifCond .eq (19)), (11, 1, 0, .aload_n 0), (12, 3, 10, .getfield 0), (15, 3, 139, .getfield 67), (18, 1, 0, .iload_n 1), (19, 1, 0, .baload), (20, 3, 0, .ifCond .eq (7)), (23, 1, 0, .iconst (1)), (24, 3, 0, .goto (4)), (27, 1, 0, .iconst (0)), (28, 1, 0, .ireturn)]
abbrev mm_m_Ga_isLoaded : mm_M := (⟨"QualifierGate", "isLoaded", "(I)Z"⟩, prog_1_method_13_code, 2, some .boolean, (0, 1, false), (819, 817, 819, 79), mm_c_Ga_isLoaded)
def mm_c_Ga_place : List mm_I := [(0, 1, 0, .aload_n 0), (1, 3, 32, .getfield 3), (4, 1, 0, .ireturn)]
abbrev mm_m_Ga_place : mm_M := (⟨"QualifierGate", "place", "()I"⟩, prog_1_method_14_code, 1, some .int, (0, 0, false), (823, 821, 823, 79), mm_c_Ga_place)
def mm_c_Ga_frame : List mm_I := [(0, 1, 0, .aload_n 0), (1, 3, 21, .getfield 1), (4, 1, 0, .iload_n 1), (5, 3, 154, .invokevirtual 67), (8, 2, 0, .astore 4), (10, 2, 0, .aload 4), (12, 3, 0, .ifnonnull (5)), (15, 1, 0, .iconst (-1)), (16, 1, 0, .ireturn), (17, 1, 0, .iload_n 2), (18, 1, 0, .iconst (-1)), (19, 3, 0, .if_icmp .ne (13)), (22, 1, 0, .iload_n 3), (23, 3, 0, .ifCond .ne (9)), (26, 2, 0, .aload 4), (28, 3, 158, .getfield 193), (31, 1, 0, .ireturn), (32, 2, 0, .aload 4), (34, 3, 158, .getfield 193), (37, 3, 0, .ifCond .ge (5)), (40, 1, 0, .iconst (-1)), (41, 1, 0, .ireturn), (42, 1, 0, .iload_n 2), (43, 1, 0, .iconst (-1)), (44, 3, 0, .if_icmp .ne (31)), (47, 1, 0, .iload_n 3), (48, 1, 0, .iconst (1)), (49, 3, 0, .if_icmp .ne (11)), (52, 2, 0, .aload 4), (54, 3, 163, .getfield 194), (57, 3, 0, .goto (17)), (60, 1, 0, .iload_n 3), (61, 1, 0, .iconst (2)), (62, 3, 0, .if_icmp .ne (11)), (65, 2, 0, .aload 4), (67, 3, 166, .getfield 195), (70, 3, 0, .goto (4)), (73, 1, 0, .iconst (-1)), (74, 1, 0, .ireturn), (75, 1, 0, .iload_n 2), (76, 2, 0, .bipush (6)), (78, 2, 0, .aload 4), (80, 3, 158, .getfield 193), (83, 1, 0, .iadd), (84, 3, 67, .invokestatic 123), (87, 3, 0, .ifCond .eq (17)), (90, 2, 0, .aload 4), (92, 3, 169, .getfield 192), (95, 1, 0, .iload_n 2), (96, 1, 0, .iaload), (97, 1, 0, .iload_n 3), (98, 3, 172, .invokestatic 14), (101, 3, 0, .goto (4)), (104, 1, 0, .iconst (-1)), (105, 1, 0, .ireturn)]
abbrev mm_m_Ga_frame : mm_M := (⟨"QualifierGate", "frame", "(III)I"⟩, prog_1_method_15_code, 5, some .int, (0, 3, false), (827, 825, 827, 79), mm_c_Ga_frame)
def mm_c_Ga_input : List mm_I := [(0, 1, 0, .aload_n 0), (1, 3, 28, .getfield 2), (4, 3, 177, .getfield 322), (7, 2, 0, .bipush (8)), (9, 3, 0, .if_icmp .ne (8)), (12, 2, 0, .bipush (-2)), (14, 3, 0, .goto (11)), (17, 1, 0, .aload_n 0), (18, 3, 28, .getfield 2), (21, 1, 0, .iload_n 1), (22, 3, 180, .invokevirtual 86), (25, 1, 0, .ireturn)]
abbrev mm_m_Ga_input : mm_M := (⟨"QualifierGate", "input", "(I)I"⟩, prog_1_method_16_code, 2, some .int, (0, 1, false), (839, 837, 839, 79), mm_c_Ga_input)
def mm_c_Ga_run : List mm_I := [(0, 1, 0, .aload_n 0), (1, 3, 10, .getfield 0), (4, 1, 0, .iload_n 1), (5, 3, 86, .invokevirtual 32), (8, 3, 0, .ifCond .eq (22)), (11, 1, 0, .aload_n 0), (12, 3, 10, .getfield 0), (15, 1, 0, .aload_n 0), (16, 3, 10, .getfield 0), (19, 3, 89, .getfield 73), (22, 1, 0, .iload_n 1), (23, 1, 0, .aaload), (24, 3, 183, .invokevirtual 41), (27, 3, 0, .ifCond .ne (5)), (30, 1, 0, .iconst (-1)), (31, 1, 0, .ireturn), (32, 1, 0, .aload_n 0), (33, 3, 28, .getfield 2), (36, 1, 0, .aload_n 0), (37, 3, 10, .getfield 0), (40, 3, 89, .getfield 73), (43, 1, 0, .iload_n 1), (44, 1, 0, .aaload), (45, 1, 0, .iload_n 2), (46, 1, 0, .iload_n 3), (47, 3, 186, .invokevirtual 87), (50, 1, 0, .ireturn)]
abbrev mm_m_Ga_run : mm_M := (⟨"QualifierGate", "run", "(III)I"⟩, prog_1_method_17_code, 4, some .int, (0, 3, false), (847, 845, 847, 79), mm_c_Ga_run)
def mm_c_Ga_value : List mm_I := [(0, 1, 0, .aload_n 0), (1, 3, 28, .getfield 2), (4, 3, 190, .getfield 324), (7, 1, 0, .ireturn)]
abbrev mm_m_Ga_value : mm_M := (⟨"QualifierGate", "value", "()I"⟩, prog_1_method_18_code, 1, some .int, (0, 0, false), (940, 938, 940, 79), mm_c_Ga_value)
def mm_c_Ga_output : List mm_I := [(0, 1, 0, .iload_n 1), (1, 1, 0, .aload_n 0), (2, 3, 28, .getfield 2), (5, 3, 193, .getfield 327), (8, 2, 0, .bipush (16)), (10, 3, 196, .invokestatic 1003), (13, 3, 67, .invokestatic 123), (16, 3, 0, .ifCond .eq (15)), (19, 1, 0, .aload_n 0), (20, 3, 28, .getfield 2), (23, 3, 201, .getfield 323), (26, 1, 0, .iload_n 1), (27, 1, 0, .iaload), (28, 3, 0, .goto (4)), (31, 1, 0, .iconst (0)), (32, 1, 0, .ireturn)]
abbrev mm_m_Ga_output : mm_M := (⟨"QualifierGate", "output", "(I)I"⟩, prog_1_method_19_code, 2, some .int, (0, 1, false), (944, 942, 944, 79), mm_c_Ga_output)
def mm_c_Ga_told : List mm_I := [(0, 1, 0, .iload_n 1), (1, 35, 0, .tableswitch (75) (0) (4) #[35, 43, 51, 59, 67]), (36, 1, 0, .aload_n 0), (37, 3, 28, .getfield 2), (40, 3, 204, .getfield 325), (43, 1, 0, .ireturn), (44, 1, 0, .aload_n 0), (45, 3, 28, .getfield 2), (48, 3, 207, .getfield 326), (51, 1, 0, .ireturn), (52, 1, 0, .aload_n 0), (53, 3, 28, .getfield 2), (56, 3, 193, .getfield 327), (59, 1, 0, .ireturn), (60, 1, 0, .aload_n 0), (61, 3, 28, .getfield 2), (64, 3, 210, .getfield 328), (67, 1, 0, .ireturn), (68, 1, 0, .aload_n 0), (69, 3, 28, .getfield 2), (72, 3, 213, .getfield 329), (75, 1, 0, .ireturn), (76, 1, 0, .iconst (-1)), (77, 1, 0, .ireturn)]
abbrev mm_m_Ga_told : mm_M := (⟨"QualifierGate", "told", "(I)I"⟩, prog_1_method_20_code, 2, some .int, (0, 1, false), (949, 947, 949, 79), mm_c_Ga_told)
def mm_c_Ga_placeOf : List mm_I := [(0, 1, 0, .iload_n 2), (1, 3, 0, .ifCond .ne (5)), (4, 1, 0, .iconst (-1)), (5, 1, 0, .ireturn), (6, 2, 0, .bipush (32)), (8, 1, 0, .iload_n 1), (9, 1, 0, .imul), (10, 1, 0, .iload_n 2), (11, 2, 0, .bipush (8)), (13, 3, 0, .if_icmp .lt (8)), (16, 2, 0, .bipush (31)), (18, 3, 0, .goto (10)), (21, 1, 0, .aload_n 0), (22, 3, 21, .getfield 1), (25, 3, 216, .getfield 134), (28, 1, 0, .iadd), (29, 1, 0, .ireturn)]
abbrev mm_m_Ga_placeOf : mm_M := (⟨"QualifierGate", "placeOf", "(II)I"⟩, prog_1_method_21_code, 3, some .int, (0, 2, false), (794, 793, 20, 79), mm_c_Ga_placeOf)
def mm_c_Ga_within : List mm_I := [(0, 1, 0, .iload_n 0), (1, 3, 0, .ifCond .lt (12)), (4, 1, 0, .iload_n 0), (5, 1, 0, .iload_n 1), (6, 3, 0, .if_icmp .ge (7)), (9, 1, 0, .iconst (1)), (10, 3, 0, .goto (4)), (13, 1, 0, .iconst (0)), (14, 1, 0, .ireturn)]
abbrev mm_m_Ga_within : mm_M := (⟨"QualifierGate", "within", "(II)Z"⟩, prog_1_method_22_code, 2, some .boolean, (0, 2, true), (343, 342, 0, 79), mm_c_Ga_within)
def mm_c_Mo_init : List mm_I := [(0, 1, 0, .aload_n 0), (1, 3, 1, .invokespecial 1000), (4, 1, 0, .aload_n 0), (5, 1, 0, .iconst (1)), (6, 3, 7, .putfield 576), (9, 1, 0, .aload_n 0), (10, 2, 0, .bipush (6)), (12, 2, 0, .newarray .int), (14, 3, 13, .putfield 579), (17, 1, 0, .aload_n 0), (18, 2, 0, .bipush (12)), (20, 2, 0, .newarray .int), (22, 3, 17, .putfield 580), (25, 1, 0, .aload_n 0), (26, 2, 0, .bipush (12)), (28, 2, 0, .newarray .int), (30, 3, 20, .putfield 581), (33, 1, 0, .aload_n 0), (34, 2, 0, .bipush (12)), (36, 2, 0, .newarray .int), (38, 3, 23, .putfield 582), (41, 1, 0, .aload_n 0), (42, 2, 0, .bipush (6)), (44, 2, 0, .newarray .boolean), (46, 3, 26, .putfield 583), (49, 1, 0, .aload_n 0), (50, 2, 0, .bipush (12)), (52, 2, 0, .newarray .boolean), (54, 3, 30, .putfield 584), (57, 1, 0, .aload_n 0), (58, 2, 0, .bipush (10)), (60, 2, 0, .newarray .int), (62, 3, 33, .putfield 585), (65, 1, 0, .aload_n 0), (66, 2, 0, .bipush (10)), (68, 2, 0, .newarray .int), (70, 3, 36, .putfield 586), (73, 1, 0, .aload_n 0), (74, 2, 0, .bipush (10)), (76, 2, 0, .newarray .int), (78, 3, 39, .putfield 587), (81, 1, 0, .aload_n 0), (82, 2, 0, .bipush (10)), (84, 2, 0, .newarray .int), (86, 3, 42, .putfield 588), (89, 1, 0, .aload_n 0), (90, 2, 0, .bipush (10)), (92, 2, 0, .newarray .int), (94, 3, 45, .putfield 589), (97, 1, 0, .aload_n 0), (98, 2, 0, .bipush (10)), (100, 2, 0, .newarray .int), (102, 3, 48, .putfield 590), (105, 1, 0, .aload_n 0), (106, 2, 0, .bipush (40)), (108, 2, 0, .newarray .int), (110, 3, 51, .putfield 591), (113, 1, 0, .aload_n 0), (114, 2, 0, .bipush (40)), (116, 2, 0, .newarray .int), (118, 3, 54, .putfield 592), (121, 1, 0, .aload_n 0), (122, 2, 0, .bipush (10)), (124, 2, 0, .newarray .boolean), (126, 3, 57, .putfield 593), (129, 1, 0, .aload_n 0), (130, 2, 0, .bipush (40)), (132, 2, 0, .newarray .boolean), (134, 3, 60, .putfield 594), (137, 1, 0, .aload_n 0), (138, 3, 0, .sipush (200)), (141, 2, 0, .newarray .int), (143, 3, 63, .putfield 595), (146, 1, 0, .aload_n 0), (147, 3, 0, .sipush (200)), (150, 2, 0, .newarray .int), (152, 3, 66, .putfield 596), (155, 1, 0, .aload_n 0), (156, 2, 0, .bipush (20)), (158, 2, 0, .newarray .int), (160, 3, 69, .putfield 597), (163, 1, 0, .aload_n 0), (164, 2, 0, .bipush (20)), (166, 2, 0, .newarray .int), (168, 3, 72, .putfield 598), (171, 1, 0, .aload_n 0), (172, 2, 0, .bipush (20)), (174, 2, 0, .newarray .int), (176, 3, 75, .putfield 599), (179, 1, 0, .aload_n 0), (180, 2, 0, .bipush (20)), (182, 2, 0, .newarray .int), (184, 3, 78, .putfield 600), (187, 1, 0, .aload_n 0), (188, 2, 0, .bipush (20)), (190, 2, 0, .newarray .int), (192, 3, 81, .putfield 601), (195, 1, 0, .aload_n 0), (196, 2, 0, .bipush (20)), (198, 2, 0, .newarray .int), (200, 3, 84, .putfield 602), (203, 1, 0, .aload_n 0), (204, 3, 0, .sipush (200)), (207, 2, 0, .newarray .int), (209, 3, 87, .putfield 603), (212, 1, 0, .aload_n 0), (213, 3, 0, .sipush (200)), (216, 2, 0, .newarray .int), (218, 3, 90, .putfield 604), (221, 1, 0, .aload_n 0), (222, 3, 0, .sipush (200)), (225, 2, 0, .newarray .int), (227, 3, 93, .putfield 605), (230, 1, 0, .aload_n 0), (231, 3, 0, .sipush (200)), (234, 2, 0, .newarray .int), (236, 3, 96, .putfield 606), (239, 1, 0, .aload_n 0), (240, 3, 0, .sipush (200)), (243, 2, 0, .newarray .boolean), (245, 3, 99, .putfield 607), (248, 1, 0, .aload_n 0), (249, 1, 0, .iconst (-1)), (250, 3, 102, .putfield 608), (253, 1, 0, .aload_n 0), (254, 1, 0, .iconst (-1)), (255, 3, 105, .putfield 609), (258, 1, 0, .aload_n 0), (259, 2, 0, .bipush (10)), (261, 2, 0, .newarray .int), (263, 3, 108, .putfield 614), (266, 1, 0, .aload_n 0), (267, 2, 0, .bipush (10)), (269, 2, 0, .newarray .int), (271, 3, 111, .putfield 615), (274, 1, 0, .aload_n 0), (275, 2, 0, .bipush (10)), (277, 2, 0, .newarray .int), (279, 3, 114, .putfield 616), (282, 1, 0, .aload_n 0), (283, 2, 0, .bipush (10)), (285, 2, 0, .newarray .int), (287, 3, 117, .putfield 617), (290, 1, 0, .aload_n 0), (291, 2, 0, .bipush (10)), (293, 2, 0, .newarray .boolean), (295, 3, 120, .putfield 618), (298, 1, 0, .aload_n 0), (299, 2, 0, .bipush (8)), (301, 2, 0, .newarray .int), (303, 3, 123, .putfield 619), (306, 1, 0, .aload_n 0), (307, 2, 0, .bipush (25)), (309, 2, 0, .newarray .int), (311, 3, 126, .putfield 620), (314, 1, 0, .aload_n 0), (315, 3, 0, .sipush (300)), (318, 2, 0, .newarray .int), (320, 3, 129, .putfield 621), (323, 1, 0, .aload_n 0), (324, 2, 0, .bipush (36)), (326, 2, 0, .newarray .int), (328, 3, 132, .putfield 622), (331, 1, 0, .aload_n 0), (332, 2, 0, .bipush (24)), (334, 2, 0, .newarray .int), (336, 3, 135, .putfield 623), (339, 1, 0, .aload_n 0), (340, 2, 0, .bipush (6)), (342, 2, 0, .newarray .int), (344, 3, 138, .putfield 624), (347, 1, 0, .aload_n 0), (348, 2, 0, .bipush (6)), (350, 2, 0, .newarray .int), (352, 3, 141, .putfield 625), (355, 1, 0, .aload_n 0), (356, 2, 0, .bipush (6)), (358, 2, 0, .newarray .int), (360, 3, 144, .putfield 626), (363, 1, 0, .aload_n 0), (364, 2, 0, .bipush (16)), (366, 2, 0, .newarray .int), (368, 3, 147, .putfield 627), (371, 1, 0, .aload_n 0), (372, 3, 13, .getfield 579), (375, 1, 0, .iconst (0)), (376, 1, 0, .iconst (-1)), (377, 1, 0, .iastore), (378, 1, 0, .return_)]
abbrev mm_m_Mo_init : mm_M := (⟨"QualifierGateModel", "<init>", "()V"⟩, prog_13_method_1_code, 1, none, (9, 0, false), (954, 953, 0, 86), mm_c_Mo_init)
def mm_c_Mo_within : List mm_I := [(0, 1, 0, .iload_n 0), (1, 1, 0, .iload_n 1), (2, 3, 0, .if_icmp .lt (12)), (5, 1, 0, .iload_n 0), (6, 1, 0, .iload_n 2), (7, 3, 0, .if_icmp .gt (7)), (10, 1, 0, .iconst (1)), (11, 3, 0, .goto (4)), (14, 1, 0, .iconst (0)), (15, 1, 0, .ireturn)]
abbrev mm_m_Mo_within : mm_M := (⟨"QualifierGateModel", "within", "(III)Z"⟩, prog_13_method_2_code, 3, some .boolean, (9, 3, true), (1154, 1153, 0, 86), mm_c_Mo_within)
def mm_c_Mo_isClass : List mm_I := [(0, 1, 0, .iload_n 1), (1, 1, 0, .iconst (0)), (2, 1, 0, .aload_n 0), (3, 3, 7, .getfield 576), (6, 1, 0, .iconst (1)), (7, 1, 0, .isub), (8, 3, 150, .invokestatic 125), (11, 1, 0, .ireturn)]
abbrev mm_m_Mo_isClass : mm_M := (⟨"QualifierGateModel", "isClass", "(I)Z"⟩, prog_13_method_3_code, 2, some .boolean, (9, 1, false), (1151, 1150, 36, 86), mm_c_Mo_isClass)
def mm_c_Mo_isMethod : List mm_I := [(0, 1, 0, .iload_n 1), (1, 1, 0, .iconst (0)), (2, 1, 0, .aload_n 0), (3, 3, 154, .getfield 578), (6, 1, 0, .iconst (1)), (7, 1, 0, .isub), (8, 3, 150, .invokestatic 125), (11, 1, 0, .ireturn)]
abbrev mm_m_Mo_isMethod : mm_M := (⟨"QualifierGateModel", "isMethod", "(I)Z"⟩, prog_13_method_4_code, 2, some .boolean, (9, 1, false), (1178, 1177, 39, 86), mm_c_Mo_isMethod)
def mm_c_Mo_frozen : List mm_I := [(0, 1, 0, .iconst (0)), (1, 1, 0, .istore_n 1), (2, 1, 0, .iload_n 1), (3, 2, 0, .bipush (6)), (5, 3, 0, .if_icmp .ge (20)), (8, 1, 0, .aload_n 0), (9, 3, 26, .getfield 583), (12, 1, 0, .iload_n 1), (13, 1, 0, .baload), (14, 3, 0, .ifCond .eq (5)), (17, 1, 0, .iconst (1)), (18, 1, 0, .ireturn), (19, 3, 0, .iinc 1 (1)), (22, 3, 0, .goto (-20)), (25, 1, 0, .iconst (0)), (26, 1, 0, .ireturn)]
abbrev mm_m_Mo_frozen : mm_M := (⟨"QualifierGateModel", "frozen", "()Z"⟩, prog_13_method_5_code, 2, some .boolean, (9, 0, false), (1147, 1146, 35, 86), mm_c_Mo_frozen)
def mm_c_Mo_isBelow : List mm_I := [(0, 1, 0, .iload_n 1), (1, 1, 0, .istore_n 3), (2, 1, 0, .iload_n 3), (3, 3, 0, .ifCond .lt (18)), (6, 1, 0, .iload_n 3), (7, 1, 0, .iload_n 2), (8, 3, 0, .if_icmp .eq (13)), (11, 1, 0, .aload_n 0), (12, 3, 13, .getfield 579), (15, 1, 0, .iload_n 3), (16, 1, 0, .iaload), (17, 1, 0, .istore_n 3), (18, 3, 0, .goto (-16)), (21, 1, 0, .iload_n 3), (22, 3, 0, .ifCond .lt (7)), (25, 1, 0, .iconst (1)), (26, 3, 0, .goto (4)), (29, 1, 0, .iconst (0)), (30, 1, 0, .ireturn)]
abbrev mm_m_Mo_isBelow : mm_M := (⟨"QualifierGateModel", "isBelow", "(II)Z"⟩, prog_13_method_6_code, 4, some .boolean, (9, 2, false), (1238, 1237, 48, 86), mm_c_Mo_isBelow)
def mm_c_Mo_says : List mm_I := [(0, 1, 0, .iload_n 1), (1, 1, 0, .iconst (-1)), (2, 3, 0, .if_icmp .eq (11)), (5, 1, 0, .aload_n 0), (6, 1, 0, .iload_n 1), (7, 3, 157, .invokevirtual 126), (10, 3, 0, .ifCond .eq (17)), (13, 1, 0, .iload_n 2), (14, 1, 0, .iconst (0)), (15, 2, 0, .bipush (15)), (17, 3, 150, .invokestatic 125), (20, 3, 0, .ifCond .eq (7)), (23, 1, 0, .iconst (1)), (24, 3, 0, .goto (4)), (27, 1, 0, .iconst (0)), (28, 1, 0, .ireturn)]
abbrev mm_m_Mo_says : mm_M := (⟨"QualifierGateModel", "says", "(II)Z"⟩, prog_13_method_7_code, 3, some .boolean, (9, 2, false), (1162, 1161, 37, 86), mm_c_Mo_says)
def mm_c_Mo_cls : List mm_I := [(0, 1, 0, .aload_n 0), (1, 3, 161, .invokevirtual 128), (4, 3, 0, .ifCond .eq (6)), (7, 2, 0, .bipush (-3)), (9, 1, 0, .ireturn), (10, 1, 0, .aload_n 0), (11, 1, 0, .iload_n 1), (12, 3, 157, .invokevirtual 126), (15, 3, 0, .ifCond .ne (5)), (18, 1, 0, .iconst (-1)), (19, 1, 0, .ireturn), (20, 1, 0, .aload_n 0), (21, 3, 7, .getfield 576), (24, 2, 0, .bipush (6)), (26, 3, 0, .if_icmp .ne (6)), (29, 2, 0, .bipush (-2)), (31, 1, 0, .ireturn), (32, 1, 0, .aload_n 0), (33, 3, 13, .getfield 579), (36, 1, 0, .aload_n 0), (37, 3, 7, .getfield 576), (40, 1, 0, .iload_n 1), (41, 1, 0, .iastore), (42, 1, 0, .aload_n 0), (43, 1, 0, .dup), (44, 3, 7, .getfield 576), (47, 1, 0, .iconst (1)), (48, 1, 0, .iadd), (49, 3, 7, .putfield 576), (52, 1, 0, .aload_n 0), (53, 3, 7, .getfield 576), (56, 1, 0, .iconst (1)), (57, 1, 0, .isub), (58, 1, 0, .ireturn)]
abbrev mm_m_Mo_cls : mm_M := (⟨"QualifierGateModel", "cls", "(I)I"⟩, prog_13_method_8_code, 2, some .int, (9, 1, false), (1143, 1141, 1143, 86), mm_c_Mo_cls)
def mm_c_Mo_field : List mm_I := [(0, 1, 0, .aload_n 0), (1, 3, 161, .invokevirtual 128), (4, 3, 0, .ifCond .eq (6)), (7, 2, 0, .bipush (-3)), (9, 1, 0, .ireturn), (10, 1, 0, .aload_n 0), (11, 1, 0, .iload_n 1), (12, 3, 157, .invokevirtual 126), (15, 3, 0, .ifCond .eq (13)), (18, 1, 0, .aload_n 0), (19, 1, 0, .iload_n 2), (20, 2, 0, .iload 4), (22, 3, 165, .invokevirtual 130), (25, 3, 0, .ifCond .ne (5)), (28, 1, 0, .iconst (-1)), (29, 1, 0, .ireturn), (30, 1, 0, .aload_n 0), (31, 3, 169, .getfield 577), (34, 2, 0, .bipush (12)), (36, 3, 0, .if_icmp .ne (6)), (39, 2, 0, .bipush (-2)), (41, 1, 0, .ireturn), (42, 1, 0, .aload_n 0), (43, 3, 17, .getfield 580), (46, 1, 0, .aload_n 0), (47, 3, 169, .getfield 577), (50, 1, 0, .iload_n 1), (51, 1, 0, .iastore), (52, 1, 0, .aload_n 0), (53, 3, 20, .getfield 581), (56, 1, 0, .aload_n 0), (57, 3, 169, .getfield 577), (60, 1, 0, .iload_n 2), (61, 1, 0, .iastore), (62, 1, 0, .aload_n 0), (63, 3, 30, .getfield 584), (66, 1, 0, .aload_n 0), (67, 3, 169, .getfield 577), (70, 1, 0, .iload_n 3), (71, 1, 0, .bastore), (72, 1, 0, .aload_n 0), (73, 3, 23, .getfield 582), (76, 1, 0, .aload_n 0), (77, 3, 169, .getfield 577), (80, 2, 0, .iload 4), (82, 1, 0, .iastore), (83, 1, 0, .aload_n 0), (84, 1, 0, .dup), (85, 3, 169, .getfield 577), (88, 1, 0, .iconst (1)), (89, 1, 0, .iadd), (90, 3, 169, .putfield 577), (93, 1, 0, .aload_n 0), (94, 3, 169, .getfield 577), (97, 1, 0, .iconst (1)), (98, 1, 0, .isub), (99, 1, 0, .ireturn)]
abbrev mm_m_Mo_field : mm_M := (⟨"QualifierGateModel", "field", "(IIZI)I"⟩, prog_13_method_9_code, 5, some .int, (9, 4, false), (1158, 1156, 1158, 86), mm_c_Mo_field)
def mm_c_Mo_own : List mm_I := [(0, 1, 0, .iconst (0)), (1, 1, 0, .istore_n 3), (2, 1, 0, .iload_n 3), (3, 1, 0, .aload_n 0), (4, 3, 154, .getfield 578), (7, 3, 0, .if_icmp .ge (31)), (10, 1, 0, .aload_n 0), (11, 3, 33, .getfield 585), (14, 1, 0, .iload_n 3), (15, 1, 0, .iaload), (16, 1, 0, .iload_n 1), (17, 3, 0, .if_icmp .ne (15)), (20, 1, 0, .aload_n 0), (21, 3, 36, .getfield 586), (24, 1, 0, .iload_n 3), (25, 1, 0, .iaload), (26, 1, 0, .iload_n 2), (27, 3, 0, .if_icmp .ne (5)), (30, 1, 0, .iload_n 3), (31, 1, 0, .ireturn), (32, 3, 0, .iinc 3 (1)), (35, 3, 0, .goto (-33)), (38, 1, 0, .iconst (-1)), (39, 1, 0, .ireturn)]
abbrev mm_m_Mo_own : mm_M := (⟨"QualifierGateModel", "own", "(II)I"⟩, prog_13_method_10_code, 4, some .int, (9, 2, false), (1170, 1169, 38, 86), mm_c_Mo_own)
def mm_c_Mo_find : List mm_I := [(0, 1, 0, .iload_n 1), (1, 1, 0, .istore_n 3), (2, 1, 0, .iconst (-1)), (3, 2, 0, .istore 4), (5, 1, 0, .iload_n 3), (6, 3, 0, .ifCond .lt (26)), (9, 2, 0, .iload 4), (11, 3, 0, .ifCond .ge (21)), (14, 1, 0, .aload_n 0), (15, 1, 0, .iload_n 3), (16, 1, 0, .iload_n 2), (17, 3, 172, .invokevirtual 133), (20, 2, 0, .istore 4), (22, 1, 0, .aload_n 0), (23, 3, 13, .getfield 579), (26, 1, 0, .iload_n 3), (27, 1, 0, .iaload), (28, 1, 0, .istore_n 3), (29, 3, 0, .goto (-24)), (32, 2, 0, .iload 4), (34, 1, 0, .ireturn)]
abbrev mm_m_Mo_find : mm_M := (⟨"QualifierGateModel", "find", "(II)I"⟩, prog_13_method_11_code, 5, some .int, (9, 2, false), (1325, 1324, 68, 86), mm_c_Mo_find)
def mm_c_Mo_method : List mm_I := [(0, 1, 0, .aload_n 0), (1, 3, 161, .invokevirtual 128), (4, 3, 0, .ifCond .eq (6)), (7, 2, 0, .bipush (-3)), (9, 1, 0, .ireturn), (10, 1, 0, .aload_n 0), (11, 1, 0, .iload_n 1), (12, 3, 157, .invokevirtual 126), (15, 3, 0, .ifCond .eq (21)), (18, 1, 0, .iload_n 2), (19, 1, 0, .iconst (0)), (20, 1, 0, .iconst (5)), (21, 3, 150, .invokestatic 125), (24, 3, 0, .ifCond .eq (12)), (27, 1, 0, .aload_n 0), (28, 1, 0, .iload_n 1), (29, 1, 0, .iload_n 2), (30, 3, 172, .invokevirtual 133), (33, 3, 0, .ifCond .lt (5)), (36, 1, 0, .iconst (-1)), (37, 1, 0, .ireturn), (38, 1, 0, .aload_n 0), (39, 3, 154, .getfield 578), (42, 2, 0, .bipush (10)), (44, 3, 0, .if_icmp .ne (6)), (47, 2, 0, .bipush (-2)), (49, 1, 0, .ireturn), (50, 1, 0, .aload_n 0), (51, 3, 33, .getfield 585), (54, 1, 0, .aload_n 0), (55, 3, 154, .getfield 578), (58, 1, 0, .iload_n 1), (59, 1, 0, .iastore), (60, 1, 0, .aload_n 0), (61, 3, 36, .getfield 586), (64, 1, 0, .aload_n 0), (65, 3, 154, .getfield 578), (68, 1, 0, .iload_n 2), (69, 1, 0, .iastore), (70, 1, 0, .aload_n 0), (71, 3, 57, .getfield 593), (74, 1, 0, .aload_n 0), (75, 3, 154, .getfield 578), (78, 1, 0, .iload_n 3), (79, 1, 0, .bastore), (80, 1, 0, .aload_n 0), (81, 3, 42, .getfield 588), (84, 1, 0, .aload_n 0), (85, 3, 154, .getfield 578), (88, 1, 0, .iconst (-1)), (89, 1, 0, .iastore), (90, 1, 0, .aload_n 0), (91, 3, 51, .getfield 591), (94, 1, 0, .iconst (4)), (95, 1, 0, .aload_n 0), (96, 3, 154, .getfield 578), (99, 1, 0, .imul), (100, 1, 0, .iconst (3)), (101, 1, 0, .iadd), (102, 2, 0, .bipush (-2)), (104, 1, 0, .iastore), (105, 1, 0, .aload_n 0), (106, 1, 0, .dup), (107, 3, 154, .getfield 578), (110, 1, 0, .iconst (1)), (111, 1, 0, .iadd), (112, 3, 154, .putfield 578), (115, 1, 0, .aload_n 0), (116, 3, 154, .getfield 578), (119, 1, 0, .iconst (1)), (120, 1, 0, .isub), (121, 1, 0, .ireturn)]
abbrev mm_m_Mo_method : mm_M := (⟨"QualifierGateModel", "method", "(IIZ)I"⟩, prog_13_method_12_code, 4, some .int, (9, 3, false), (1166, 1164, 1166, 86), mm_c_Mo_method)
def mm_c_Mo_param : List mm_I := [(0, 1, 0, .aload_n 0), (1, 3, 161, .invokevirtual 128), (4, 3, 0, .ifCond .eq (6)), (7, 2, 0, .bipush (-3)), (9, 1, 0, .ireturn), (10, 1, 0, .aload_n 0), (11, 1, 0, .iload_n 1), (12, 3, 176, .invokevirtual 127), (15, 3, 0, .ifCond .eq (13)), (18, 1, 0, .aload_n 0), (19, 1, 0, .iload_n 2), (20, 2, 0, .iload 4), (22, 3, 165, .invokevirtual 130), (25, 3, 0, .ifCond .ne (5)), (28, 1, 0, .iconst (-1)), (29, 1, 0, .ireturn), (30, 1, 0, .aload_n 0), (31, 3, 39, .getfield 587), (34, 1, 0, .iload_n 1), (35, 1, 0, .iaload), (36, 1, 0, .iconst (3)), (37, 3, 0, .if_icmp .ne (6)), (40, 2, 0, .bipush (-2)), (42, 1, 0, .ireturn), (43, 1, 0, .aload_n 0), (44, 1, 0, .iconst (4)), (45, 1, 0, .iload_n 1), (46, 1, 0, .imul), (47, 1, 0, .aload_n 0), (48, 3, 39, .getfield 587), (51, 1, 0, .iload_n 1), (52, 1, 0, .iaload), (53, 1, 0, .iadd), (54, 1, 0, .iload_n 2), (55, 1, 0, .iload_n 3), (56, 2, 0, .iload 4), (58, 3, 179, .invokevirtual 137), (61, 1, 0, .aload_n 0), (62, 3, 39, .getfield 587), (65, 1, 0, .iload_n 1), (66, 1, 0, .dup2), (67, 1, 0, .iaload), (68, 1, 0, .iconst (1)), (69, 1, 0, .iadd), (70, 1, 0, .iastore), (71, 1, 0, .aload_n 0), (72, 3, 39, .getfield 587), (75, 1, 0, .iload_n 1), (76, 1, 0, .iaload), (77, 1, 0, .ireturn)]
abbrev mm_m_Mo_param : mm_M := (⟨"QualifierGateModel", "param", "(IIZI)I"⟩, prog_13_method_13_code, 5, some .int, (9, 4, false), (1174, 1172, 1174, 86), mm_c_Mo_param)
def mm_c_Mo_say : List mm_I := [(0, 1, 0, .aload_n 0), (1, 3, 51, .getfield 591), (4, 1, 0, .iload_n 1), (5, 1, 0, .iload_n 2), (6, 1, 0, .iastore), (7, 1, 0, .aload_n 0), (8, 3, 60, .getfield 594), (11, 1, 0, .iload_n 1), (12, 1, 0, .iload_n 3), (13, 1, 0, .bastore), (14, 1, 0, .aload_n 0), (15, 3, 54, .getfield 592), (18, 1, 0, .iload_n 1), (19, 2, 0, .iload 4), (21, 1, 0, .iastore), (22, 1, 0, .return_)]
abbrev mm_m_Mo_say : mm_M := (⟨"QualifierGateModel", "say", "(IIZI)V"⟩, prog_13_method_14_code, 5, none, (9, 4, false), (1182, 1181, 40, 86), mm_c_Mo_say)
def mm_c_Mo_result : List mm_I := [(0, 1, 0, .aload_n 0), (1, 3, 161, .invokevirtual 128), (4, 3, 0, .ifCond .ne (38)), (7, 1, 0, .aload_n 0), (8, 1, 0, .iload_n 1), (9, 3, 176, .invokevirtual 127), (12, 3, 0, .ifCond .eq (30)), (15, 2, 0, .iload 4), (17, 1, 0, .iconst (0)), (18, 2, 0, .bipush (15)), (20, 3, 150, .invokestatic 125), (23, 3, 0, .ifCond .eq (19)), (26, 1, 0, .iload_n 2), (27, 2, 0, .bipush (-2)), (29, 3, 0, .if_icmp .eq (15)), (32, 1, 0, .aload_n 0), (33, 1, 0, .iload_n 2), (34, 2, 0, .iload 4), (36, 3, 165, .invokevirtual 130), (39, 3, 0, .ifCond .ne (5)), (42, 1, 0, .iconst (0)), (43, 1, 0, .ireturn), (44, 1, 0, .aload_n 0), (45, 1, 0, .iconst (4)), (46, 1, 0, .iload_n 1), (47, 1, 0, .imul), (48, 1, 0, .iconst (3)), (49, 1, 0, .iadd), (50, 1, 0, .iload_n 2), (51, 1, 0, .iload_n 3), (52, 2, 0, .iload 4), (54, 3, 179, .invokevirtual 137), (57, 1, 0, .iconst (1)), (58, 1, 0, .ireturn)]
abbrev mm_m_Mo_result : mm_M := (⟨"QualifierGateModel", "result", "(IIZI)Z"⟩, prog_13_method_15_code, 5, some .boolean, (9, 4, false), (1186, 1184, 1186, 86), mm_c_Mo_result)
def mm_c_Mo_builtIn : List mm_I := [(0, 1, 0, .aload_n 0), (1, 3, 161, .invokevirtual 128), (4, 3, 0, .ifCond .ne (20)), (7, 1, 0, .aload_n 0), (8, 1, 0, .iload_n 1), (9, 3, 176, .invokevirtual 127), (12, 3, 0, .ifCond .eq (12)), (15, 1, 0, .iload_n 2), (16, 1, 0, .iconst (-1)), (17, 1, 0, .iconst (2)), (18, 3, 150, .invokestatic 125), (21, 3, 0, .ifCond .ne (5)), (24, 1, 0, .iconst (0)), (25, 1, 0, .ireturn), (26, 1, 0, .aload_n 0), (27, 3, 42, .getfield 588), (30, 1, 0, .iload_n 1), (31, 1, 0, .iload_n 2), (32, 1, 0, .iastore), (33, 1, 0, .iconst (1)), (34, 1, 0, .ireturn)]
abbrev mm_m_Mo_builtIn : mm_M := (⟨"QualifierGateModel", "builtIn", "(II)Z"⟩, prog_13_method_16_code, 3, some .boolean, (9, 2, false), (1190, 1188, 1190, 86), mm_c_Mo_builtIn)
def mm_c_Mo_add : List mm_I := [(0, 1, 0, .aload_n 0), (1, 3, 161, .invokevirtual 128), (4, 3, 0, .ifCond .eq (6)), (7, 2, 0, .bipush (-3)), (9, 1, 0, .ireturn), (10, 1, 0, .aload_n 0), (11, 1, 0, .iload_n 1), (12, 3, 176, .invokevirtual 127), (15, 3, 0, .ifCond .eq (13)), (18, 1, 0, .iload_n 2), (19, 1, 0, .iconst (0)), (20, 2, 0, .bipush (17)), (22, 3, 150, .invokestatic 125), (25, 3, 0, .ifCond .ne (5)), (28, 1, 0, .iconst (-1)), (29, 1, 0, .ireturn), (30, 1, 0, .iload_n 2), (31, 1, 0, .iconst (2)), (32, 3, 0, .if_icmp .eq (8)), (35, 1, 0, .iload_n 2), (36, 1, 0, .iconst (3)), (37, 3, 0, .if_icmp .ne (7)), (40, 1, 0, .iconst (5)), (41, 3, 0, .goto (79)), (44, 1, 0, .iload_n 2), (45, 2, 0, .bipush (7)), (47, 3, 0, .if_icmp .eq (9)), (50, 1, 0, .iload_n 2), (51, 2, 0, .bipush (12)), (53, 3, 0, .if_icmp .ne (12)), (56, 1, 0, .aload_n 0), (57, 3, 7, .getfield 576), (60, 1, 0, .iconst (1)), (61, 1, 0, .isub), (62, 3, 0, .goto (58)), (65, 1, 0, .iload_n 2), (66, 2, 0, .bipush (9)), (68, 3, 0, .if_icmp .eq (9)), (71, 1, 0, .iload_n 2), (72, 2, 0, .bipush (10)), (74, 3, 0, .if_icmp .ne (12)), (77, 1, 0, .aload_n 0), (78, 3, 169, .getfield 577), (81, 1, 0, .iconst (1)), (82, 1, 0, .isub), (83, 3, 0, .goto (37)), (86, 1, 0, .iload_n 2), (87, 2, 0, .bipush (11)), (89, 3, 0, .if_icmp .ne (12)), (92, 1, 0, .aload_n 0), (93, 3, 154, .getfield 578), (96, 1, 0, .iconst (1)), (97, 1, 0, .isub), (98, 3, 0, .goto (22)), (101, 1, 0, .iload_n 2), (102, 2, 0, .bipush (13)), (104, 3, 0, .if_icmp .lt (14)), (107, 1, 0, .iload_n 2), (108, 2, 0, .bipush (15)), (110, 3, 0, .if_icmp .gt (8)), (113, 2, 0, .bipush (19)), (115, 3, 0, .goto (5)), (118, 2, 0, .bipush (-2)), (120, 2, 0, .istore 4), (122, 2, 0, .iload 4), (124, 2, 0, .bipush (-2)), (126, 3, 0, .if_icmp .le (15)), (129, 1, 0, .iload_n 3), (130, 1, 0, .iconst (0)), (131, 2, 0, .iload 4), (133, 3, 150, .invokestatic 125), (136, 3, 0, .ifCond .ne (5)), (139, 1, 0, .iconst (-1)), (140, 1, 0, .ireturn), (141, 1, 0, .aload_n 0), (142, 3, 45, .getfield 589), (145, 1, 0, .iload_n 1), (146, 1, 0, .iaload), (147, 2, 0, .bipush (20)), (149, 3, 0, .if_icmp .ne (6)), (152, 2, 0, .bipush (-2)), (154, 1, 0, .ireturn), (155, 1, 0, .aload_n 0), (156, 3, 63, .getfield 595), (159, 2, 0, .bipush (20)), (161, 1, 0, .iload_n 1), (162, 1, 0, .imul), (163, 1, 0, .aload_n 0), (164, 3, 45, .getfield 589), (167, 1, 0, .iload_n 1), (168, 1, 0, .iaload), (169, 1, 0, .iadd), (170, 1, 0, .iload_n 2), (171, 1, 0, .iastore), (172, 1, 0, .aload_n 0), (173, 3, 66, .getfield 596), (176, 2, 0, .bipush (20)), (178, 1, 0, .iload_n 1), (179, 1, 0, .imul), (180, 1, 0, .aload_n 0), (181, 3, 45, .getfield 589), (184, 1, 0, .iload_n 1), (185, 1, 0, .iaload), (186, 1, 0, .iadd), (187, 1, 0, .iload_n 3), (188, 1, 0, .iastore), (189, 1, 0, .aload_n 0), (190, 3, 45, .getfield 589), (193, 1, 0, .iload_n 1), (194, 1, 0, .dup2), (195, 1, 0, .iaload), (196, 1, 0, .iconst (1)), (197, 1, 0, .iadd), (198, 1, 0, .iastore), (199, 1, 0, .aload_n 0), (200, 3, 45, .getfield 589), (203, 1, 0, .iload_n 1), (204, 1, 0, .iaload), (205, 1, 0, .ireturn)]
abbrev mm_m_Mo_add : mm_M := (⟨"QualifierGateModel", "add", "(III)I"⟩, prog_13_method_17_code, 5, some .int, (9, 3, false), (1194, 1192, 1194, 86), mm_c_Mo_add)
def mm_c_Mo_guard : List mm_I := [(0, 1, 0, .aload_n 0), (1, 3, 161, .invokevirtual 128), (4, 3, 0, .ifCond .eq (6)), (7, 2, 0, .bipush (-3)), (9, 1, 0, .ireturn), (10, 1, 0, .aload_n 0), (11, 1, 0, .iload_n 1), (12, 3, 176, .invokevirtual 127), (15, 3, 0, .ifCond .eq (34)), (18, 1, 0, .iload_n 2), (19, 1, 0, .iconst (0)), (20, 2, 0, .bipush (19)), (22, 3, 150, .invokestatic 125), (25, 3, 0, .ifCond .eq (24)), (28, 1, 0, .iload_n 3), (29, 1, 0, .iload_n 2), (30, 2, 0, .bipush (19)), (32, 3, 150, .invokestatic 125), (35, 3, 0, .ifCond .eq (14)), (38, 2, 0, .iload 4), (40, 1, 0, .iconst (0)), (41, 2, 0, .bipush (19)), (43, 3, 150, .invokestatic 125), (46, 3, 0, .ifCond .ne (5)), (49, 1, 0, .iconst (-1)), (50, 1, 0, .ireturn), (51, 1, 0, .aload_n 0), (52, 3, 48, .getfield 590), (55, 1, 0, .iload_n 1), (56, 1, 0, .iaload), (57, 1, 0, .iconst (2)), (58, 3, 0, .if_icmp .ne (6)), (61, 2, 0, .bipush (-2)), (63, 1, 0, .ireturn), (64, 1, 0, .iconst (2)), (65, 1, 0, .iload_n 1), (66, 1, 0, .imul), (67, 1, 0, .aload_n 0), (68, 3, 48, .getfield 590), (71, 1, 0, .iload_n 1), (72, 1, 0, .iaload), (73, 1, 0, .iadd), (74, 2, 0, .istore 5), (76, 1, 0, .aload_n 0), (77, 3, 69, .getfield 597), (80, 2, 0, .iload 5), (82, 1, 0, .iload_n 2), (83, 1, 0, .iastore), (84, 1, 0, .aload_n 0), (85, 3, 72, .getfield 598), (88, 2, 0, .iload 5), (90, 1, 0, .iload_n 3), (91, 1, 0, .iastore), (92, 1, 0, .aload_n 0), (93, 3, 75, .getfield 599), (96, 2, 0, .iload 5), (98, 2, 0, .iload 4), (100, 1, 0, .iastore), (101, 1, 0, .aload_n 0), (102, 3, 48, .getfield 590), (105, 1, 0, .iload_n 1), (106, 1, 0, .dup2), (107, 1, 0, .iaload), (108, 1, 0, .iconst (1)), (109, 1, 0, .iadd), (110, 1, 0, .iastore), (111, 1, 0, .aload_n 0), (112, 3, 48, .getfield 590), (115, 1, 0, .iload_n 1), (116, 1, 0, .iaload), (117, 1, 0, .ireturn)]
abbrev mm_m_Mo_guard : mm_M := (⟨"QualifierGateModel", "guard", "(IIII)I"⟩, prog_13_method_18_code, 6, some .int, (9, 4, false), (1198, 1196, 1198, 86), mm_c_Mo_guard)
def mm_c_Mo_wipe : List mm_I := [(0, 1, 0, .aload_n 0), (1, 3, 161, .invokevirtual 128), (4, 3, 0, .ifCond .eq (6)), (7, 2, 0, .bipush (-3)), (9, 1, 0, .ireturn), (10, 1, 0, .aload_n 0), (11, 1, 0, .iload_n 1), (12, 3, 176, .invokevirtual 127), (15, 3, 0, .ifCond .ne (5)), (18, 1, 0, .iconst (-1)), (19, 1, 0, .ireturn), (20, 1, 0, .aload_n 0), (21, 3, 45, .getfield 589), (24, 1, 0, .iload_n 1), (25, 1, 0, .iaload), (26, 1, 0, .istore_n 2), (27, 1, 0, .aload_n 0), (28, 3, 45, .getfield 589), (31, 1, 0, .iload_n 1), (32, 1, 0, .iconst (0)), (33, 1, 0, .iastore), (34, 1, 0, .aload_n 0), (35, 3, 48, .getfield 590), (38, 1, 0, .iload_n 1), (39, 1, 0, .iconst (0)), (40, 1, 0, .iastore), (41, 1, 0, .iload_n 2), (42, 1, 0, .ireturn)]
abbrev mm_m_Mo_wipe : mm_M := (⟨"QualifierGateModel", "wipe", "(I)I"⟩, prog_13_method_19_code, 3, some .int, (9, 1, false), (1202, 1200, 1202, 86), mm_c_Mo_wipe)
def mm_c_Mo_guardOf : List mm_I := [(0, 1, 0, .iconst (2)), (1, 1, 0, .iload_n 1), (2, 1, 0, .imul), (3, 1, 0, .istore_n 3), (4, 1, 0, .iload_n 3), (5, 1, 0, .iconst (2)), (6, 1, 0, .iload_n 1), (7, 1, 0, .imul), (8, 1, 0, .aload_n 0), (9, 3, 48, .getfield 590), (12, 1, 0, .iload_n 1), (13, 1, 0, .iaload), (14, 1, 0, .iadd), (15, 3, 0, .if_icmp .ge (36)), (18, 1, 0, .aload_n 0), (19, 3, 69, .getfield 597), (22, 1, 0, .iload_n 3), (23, 1, 0, .iaload), (24, 1, 0, .iload_n 2), (25, 3, 0, .if_icmp .gt (20)), (28, 1, 0, .iload_n 2), (29, 1, 0, .aload_n 0), (30, 3, 72, .getfield 598), (33, 1, 0, .iload_n 3), (34, 1, 0, .iaload), (35, 3, 0, .if_icmp .gt (10)), (38, 1, 0, .aload_n 0), (39, 3, 75, .getfield 599), (42, 1, 0, .iload_n 3), (43, 1, 0, .iaload), (44, 1, 0, .ireturn), (45, 3, 0, .iinc 3 (1)), (48, 3, 0, .goto (-44)), (51, 1, 0, .iconst (-1)), (52, 1, 0, .ireturn)]
abbrev mm_m_Mo_guardOf : mm_M := (⟨"QualifierGateModel", "guardOf", "(II)I"⟩, prog_13_method_20_code, 4, some .int, (9, 2, false), (1262, 1261, 54, 86), mm_c_Mo_guardOf)
def mm_c_Mo_pops : List mm_I := [(0, 1, 0, .iload_n 2), (1, 75, 0, .tableswitch (122) (3) (17) #[75, 75, 75, 77, 122, 75, 75, 77, 79, 75, 122, 75, 75, 101, 75]), (76, 1, 0, .iconst (1)), (77, 1, 0, .ireturn), (78, 1, 0, .iconst (2)), (79, 1, 0, .ireturn), (80, 1, 0, .aload_n 0), (81, 3, 39, .getfield 587), (84, 1, 0, .iload_n 3), (85, 1, 0, .iaload), (86, 1, 0, .aload_n 0), (87, 3, 57, .getfield 593), (90, 1, 0, .iload_n 3), (91, 1, 0, .baload), (92, 3, 0, .ifCond .eq (7)), (95, 1, 0, .iconst (0)), (96, 3, 0, .goto (4)), (99, 1, 0, .iconst (1)), (100, 1, 0, .iadd), (101, 1, 0, .ireturn), (102, 1, 0, .aload_n 0), (103, 3, 51, .getfield 591), (106, 1, 0, .iconst (4)), (107, 1, 0, .iload_n 1), (108, 1, 0, .imul), (109, 1, 0, .iconst (3)), (110, 1, 0, .iadd), (111, 1, 0, .iaload), (112, 2, 0, .bipush (-2)), (114, 3, 0, .if_icmp .ne (7)), (117, 1, 0, .iconst (0)), (118, 3, 0, .goto (4)), (121, 1, 0, .iconst (1)), (122, 1, 0, .ireturn), (123, 1, 0, .iconst (0)), (124, 1, 0, .ireturn)]
abbrev mm_m_Mo_pops : mm_M := (⟨"QualifierGateModel", "pops", "(III)I"⟩, prog_13_method_21_code, 4, some .int, (9, 3, false), (1250, 1249, 51, 86), mm_c_Mo_pops)
def mm_c_Mo_pushes : List mm_I := [(0, 1, 0, .iload_n 1), (1, 1, 0, .iconst (4)), (2, 3, 0, .if_icmp .ne (5)), (5, 1, 0, .iconst (2)), (6, 1, 0, .ireturn), (7, 1, 0, .iload_n 1), (8, 2, 0, .bipush (11)), (10, 3, 0, .if_icmp .ne (24)), (13, 1, 0, .aload_n 0), (14, 3, 51, .getfield 591), (17, 1, 0, .iconst (4)), (18, 1, 0, .iload_n 2), (19, 1, 0, .imul), (20, 1, 0, .iconst (3)), (21, 1, 0, .iadd), (22, 1, 0, .iaload), (23, 2, 0, .bipush (-2)), (25, 3, 0, .if_icmp .ne (7)), (28, 1, 0, .iconst (0)), (29, 3, 0, .goto (4)), (32, 1, 0, .iconst (1)), (33, 1, 0, .ireturn), (34, 1, 0, .iload_n 1), (35, 1, 0, .iconst (2)), (36, 3, 0, .if_icmp .le (21)), (39, 1, 0, .iload_n 1), (40, 2, 0, .bipush (6)), (42, 3, 0, .if_icmp .lt (9)), (45, 1, 0, .iload_n 1), (46, 2, 0, .bipush (9)), (48, 3, 0, .if_icmp .le (9)), (51, 1, 0, .iload_n 1), (52, 2, 0, .bipush (12)), (54, 3, 0, .if_icmp .ne (7)), (57, 1, 0, .iconst (1)), (58, 3, 0, .goto (4)), (61, 1, 0, .iconst (0)), (62, 1, 0, .ireturn)]
abbrev mm_m_Mo_pushes : mm_M := (⟨"QualifierGateModel", "pushes", "(II)I"⟩, prog_13_method_22_code, 3, some .int, (9, 2, false), (1254, 1253, 52, 86), mm_c_Mo_pushes)
def mm_c_Mo_wayOf : List mm_I := [(0, 1, 0, .aload_n 0), (1, 3, 63, .getfield 595), (4, 2, 0, .bipush (20)), (6, 1, 0, .iload_n 1), (7, 1, 0, .imul), (8, 1, 0, .iload_n 2), (9, 1, 0, .iadd), (10, 1, 0, .iaload), (11, 2, 0, .istore 4), (13, 1, 0, .iload_n 3), (14, 3, 0, .ifCond .ne (25)), (17, 2, 0, .iload 4), (19, 2, 0, .bipush (13)), (21, 3, 0, .if_icmp .eq (10)), (24, 2, 0, .iload 4), (26, 2, 0, .bipush (16)), (28, 3, 0, .if_icmp .lt (7)), (31, 1, 0, .iconst (-1)), (32, 3, 0, .goto (6)), (35, 1, 0, .iload_n 2), (36, 1, 0, .iconst (1)), (37, 1, 0, .iadd), (38, 1, 0, .ireturn), (39, 1, 0, .iload_n 3), (40, 1, 0, .iconst (1)), (41, 3, 0, .if_icmp .ne (33)), (44, 2, 0, .iload 4), (46, 2, 0, .bipush (13)), (48, 3, 0, .if_icmp .lt (24)), (51, 2, 0, .iload 4), (53, 2, 0, .bipush (15)), (55, 3, 0, .if_icmp .gt (17)), (58, 1, 0, .aload_n 0), (59, 3, 66, .getfield 596), (62, 2, 0, .bipush (20)), (64, 1, 0, .iload_n 1), (65, 1, 0, .imul), (66, 1, 0, .iload_n 2), (67, 1, 0, .iadd), (68, 1, 0, .iaload), (69, 3, 0, .goto (4)), (72, 1, 0, .iconst (-1)), (73, 1, 0, .ireturn), (74, 2, 0, .iload 4), (76, 2, 0, .bipush (11)), (78, 3, 0, .if_icmp .eq (17)), (81, 2, 0, .iload 4), (83, 2, 0, .bipush (12)), (85, 3, 0, .if_icmp .eq (10)), (88, 2, 0, .iload 4), (90, 2, 0, .bipush (17)), (92, 3, 0, .if_icmp .ne (12)), (95, 1, 0, .aload_n 0), (96, 1, 0, .iload_n 1), (97, 1, 0, .iload_n 2), (98, 3, 183, .invokevirtual 143), (101, 3, 0, .goto (4)), (104, 1, 0, .iconst (-1)), (105, 1, 0, .ireturn)]
abbrev mm_m_Mo_wayOf : mm_M := (⟨"QualifierGateModel", "wayOf", "(III)I"⟩, prog_13_method_23_code, 5, some .int, (9, 3, false), (1258, 1257, 53, 86), mm_c_Mo_wayOf)
def mm_c_Mo_isShort : List mm_I := [(0, 1, 0, .aload_n 0), (1, 3, 63, .getfield 595), (4, 2, 0, .bipush (20)), (6, 1, 0, .iload_n 1), (7, 1, 0, .imul), (8, 1, 0, .iload_n 2), (9, 1, 0, .iadd), (10, 1, 0, .iaload), (11, 1, 0, .istore_n 3), (12, 1, 0, .aload_n 0), (13, 3, 66, .getfield 596), (16, 2, 0, .bipush (20)), (18, 1, 0, .iload_n 1), (19, 1, 0, .imul), (20, 1, 0, .iload_n 2), (21, 1, 0, .iadd), (22, 1, 0, .iaload), (23, 2, 0, .istore 4), (25, 1, 0, .aload_n 0), (26, 3, 78, .getfield 600), (29, 1, 0, .iload_n 2), (30, 1, 0, .iaload), (31, 1, 0, .aload_n 0), (32, 1, 0, .iload_n 1), (33, 1, 0, .iload_n 3), (34, 2, 0, .iload 4), (36, 3, 186, .invokevirtual 144), (39, 1, 0, .isub), (40, 2, 0, .istore 5), (42, 2, 0, .iload 5), (44, 3, 0, .ifCond .lt (17)), (47, 2, 0, .iload 5), (49, 1, 0, .aload_n 0), (50, 1, 0, .iload_n 3), (51, 2, 0, .iload 4), (53, 3, 190, .invokevirtual 145), (56, 1, 0, .iadd), (57, 1, 0, .iconst (4)), (58, 3, 0, .if_icmp .le (7)), (61, 1, 0, .iconst (1)), (62, 3, 0, .goto (4)), (65, 1, 0, .iconst (0)), (66, 1, 0, .ireturn)]
abbrev mm_m_Mo_isShort : mm_M := (⟨"QualifierGateModel", "isShort", "(II)Z"⟩, prog_13_method_24_code, 6, some .boolean, (9, 2, false), (1246, 1245, 50, 86), mm_c_Mo_isShort)
def mm_c_Mo_set : List mm_I := [(0, 1, 0, .aload_n 0), (1, 3, 108, .getfield 614), (4, 1, 0, .iload_n 1), (5, 1, 0, .iload_n 2), (6, 1, 0, .iastore), (7, 1, 0, .aload_n 0), (8, 3, 111, .getfield 615), (11, 1, 0, .iload_n 1), (12, 1, 0, .iload_n 3), (13, 1, 0, .iastore), (14, 1, 0, .aload_n 0), (15, 3, 120, .getfield 618), (18, 1, 0, .iload_n 1), (19, 2, 0, .iload 4), (21, 1, 0, .bastore), (22, 1, 0, .aload_n 0), (23, 3, 114, .getfield 616), (26, 1, 0, .iload_n 1), (27, 2, 0, .iload 5), (29, 1, 0, .iastore), (30, 1, 0, .aload_n 0), (31, 3, 117, .getfield 617), (34, 1, 0, .iload_n 1), (35, 1, 0, .iconst (-1)), (36, 1, 0, .iastore), (37, 1, 0, .return_)]
abbrev mm_m_Mo_set : mm_M := (⟨"QualifierGateModel", "set", "(IIIZI)V"⟩, prog_13_method_25_code, 6, none, (9, 5, false), (1222, 1221, 44, 86), mm_c_Mo_set)
def mm_c_Mo_push : List mm_I := [(0, 1, 0, .aload_n 0), (1, 2, 0, .bipush (6)), (3, 1, 0, .aload_n 0), (4, 3, 193, .getfield 611), (7, 1, 0, .iadd), (8, 1, 0, .iload_n 1), (9, 1, 0, .iload_n 2), (10, 1, 0, .iload_n 3), (11, 2, 0, .iload 4), (13, 3, 196, .invokevirtual 148), (16, 1, 0, .aload_n 0), (17, 1, 0, .dup), (18, 3, 193, .getfield 611), (21, 1, 0, .iconst (1)), (22, 1, 0, .iadd), (23, 3, 193, .putfield 611), (26, 1, 0, .return_)]
abbrev mm_m_Mo_push : mm_M := (⟨"QualifierGateModel", "push", "(IIZI)V"⟩, prog_13_method_26_code, 5, none, (9, 4, false), (1270, 1269, 56, 86), mm_c_Mo_push)
def mm_c_Mo_pushSaid : List mm_I := [(0, 1, 0, .iload_n 1), (1, 1, 0, .iconst (-1)), (2, 3, 0, .if_icmp .ne (14)), (5, 1, 0, .aload_n 0), (6, 1, 0, .iconst (1)), (7, 1, 0, .iconst (-1)), (8, 1, 0, .iconst (0)), (9, 1, 0, .iload_n 3), (10, 3, 200, .invokevirtual 149), (13, 3, 0, .goto (11)), (16, 1, 0, .aload_n 0), (17, 1, 0, .iconst (3)), (18, 1, 0, .iload_n 1), (19, 1, 0, .iload_n 2), (20, 1, 0, .iload_n 3), (21, 3, 200, .invokevirtual 149), (24, 1, 0, .return_)]
abbrev mm_m_Mo_pushSaid : mm_M := (⟨"QualifierGateModel", "pushSaid", "(IZI)V"⟩, prog_13_method_27_code, 4, none, (9, 3, false), (1282, 1281, 59, 86), mm_c_Mo_pushSaid)
def mm_c_Mo_start : List mm_I := [(0, 1, 0, .aload_n 0), (1, 1, 0, .iconst (0)), (2, 3, 193, .putfield 611), (5, 1, 0, .aload_n 0), (6, 1, 0, .iconst (-1)), (7, 3, 203, .putfield 612), (10, 1, 0, .aload_n 0), (11, 1, 0, .iconst (0)), (12, 3, 206, .putfield 613), (15, 1, 0, .iconst (0)), (16, 1, 0, .istore_n 2), (17, 1, 0, .iload_n 2), (18, 2, 0, .bipush (6)), (20, 3, 0, .if_icmp .ge (18)), (23, 1, 0, .aload_n 0), (24, 1, 0, .iload_n 2), (25, 1, 0, .iconst (0)), (26, 1, 0, .iconst (-1)), (27, 1, 0, .iconst (0)), (28, 1, 0, .iconst (0)), (29, 3, 196, .invokevirtual 148), (32, 3, 0, .iinc 2 (1)), (35, 3, 0, .goto (-18)), (38, 1, 0, .iconst (0)), (39, 1, 0, .istore_n 2), (40, 1, 0, .aload_n 0), (41, 3, 57, .getfield 593), (44, 1, 0, .iload_n 1), (45, 1, 0, .baload), (46, 3, 0, .ifCond .ne (19)), (49, 1, 0, .aload_n 0), (50, 1, 0, .iconst (0)), (51, 1, 0, .iconst (3)), (52, 1, 0, .aload_n 0), (53, 3, 33, .getfield 585), (56, 1, 0, .iload_n 1), (57, 1, 0, .iaload), (58, 1, 0, .iconst (0)), (59, 1, 0, .iconst (0)), (60, 3, 196, .invokevirtual 148), (63, 1, 0, .iconst (1)), (64, 1, 0, .istore_n 2), (65, 1, 0, .iconst (4)), (66, 1, 0, .iload_n 1), (67, 1, 0, .imul), (68, 1, 0, .istore_n 3), (69, 1, 0, .iload_n 3), (70, 1, 0, .iconst (4)), (71, 1, 0, .iload_n 1), (72, 1, 0, .imul), (73, 1, 0, .aload_n 0), (74, 3, 39, .getfield 587), (77, 1, 0, .iload_n 1), (78, 1, 0, .iaload), (79, 1, 0, .iadd), (80, 3, 0, .if_icmp .ge (63)), (83, 1, 0, .aload_n 0), (84, 3, 51, .getfield 591), (87, 1, 0, .iload_n 3), (88, 1, 0, .iaload), (89, 1, 0, .iconst (-1)), (90, 3, 0, .if_icmp .ne (20)), (93, 1, 0, .aload_n 0), (94, 1, 0, .iload_n 2), (95, 1, 0, .iconst (1)), (96, 1, 0, .iconst (-1)), (97, 1, 0, .iconst (0)), (98, 1, 0, .aload_n 0), (99, 3, 54, .getfield 592), (102, 1, 0, .iload_n 3), (103, 1, 0, .iaload), (104, 3, 196, .invokevirtual 148), (107, 3, 0, .goto (27)), (110, 1, 0, .aload_n 0), (111, 1, 0, .iload_n 2), (112, 1, 0, .iconst (3)), (113, 1, 0, .aload_n 0), (114, 3, 51, .getfield 591), (117, 1, 0, .iload_n 3), (118, 1, 0, .iaload), (119, 1, 0, .aload_n 0), (120, 3, 60, .getfield 594), (123, 1, 0, .iload_n 3), (124, 1, 0, .baload), (125, 1, 0, .aload_n 0), (126, 3, 54, .getfield 592), (129, 1, 0, .iload_n 3), (130, 1, 0, .iaload), (131, 3, 196, .invokevirtual 148), (134, 3, 0, .iinc 2 (1)), (137, 3, 0, .iinc 3 (1)), (140, 3, 0, .goto (-71)), (143, 1, 0, .return_)]
abbrev mm_m_Mo_start : mm_M := (⟨"QualifierGateModel", "start", "(I)V"⟩, prog_13_method_28_code, 4, none, (9, 1, false), (1218, 1217, 43, 86), mm_c_Mo_start)
def mm_c_Mo_take : List mm_I := [(0, 1, 0, .aload_n 0), (1, 1, 0, .aload_n 0), (2, 3, 78, .getfield 600), (5, 1, 0, .iload_n 1), (6, 1, 0, .iaload), (7, 3, 193, .putfield 611), (10, 1, 0, .aload_n 0), (11, 1, 0, .aload_n 0), (12, 3, 81, .getfield 601), (15, 1, 0, .iload_n 1), (16, 1, 0, .iaload), (17, 3, 203, .putfield 612), (20, 1, 0, .aload_n 0), (21, 1, 0, .aload_n 0), (22, 3, 84, .getfield 602), (25, 1, 0, .iload_n 1), (26, 1, 0, .iaload), (27, 3, 206, .putfield 613), (30, 1, 0, .iconst (0)), (31, 1, 0, .istore_n 2), (32, 1, 0, .iload_n 2), (33, 2, 0, .bipush (6)), (35, 1, 0, .aload_n 0), (36, 3, 193, .getfield 611), (39, 1, 0, .iadd), (40, 3, 0, .if_icmp .ge (57)), (43, 2, 0, .bipush (10)), (45, 1, 0, .iload_n 1), (46, 1, 0, .imul), (47, 1, 0, .iload_n 2), (48, 1, 0, .iadd), (49, 1, 0, .istore_n 3), (50, 1, 0, .aload_n 0), (51, 1, 0, .iload_n 2), (52, 1, 0, .aload_n 0), (53, 3, 87, .getfield 603), (56, 1, 0, .iload_n 3), (57, 1, 0, .iaload), (58, 1, 0, .aload_n 0), (59, 3, 90, .getfield 604), (62, 1, 0, .iload_n 3), (63, 1, 0, .iaload), (64, 1, 0, .aload_n 0), (65, 3, 99, .getfield 607), (68, 1, 0, .iload_n 3), (69, 1, 0, .baload), (70, 1, 0, .aload_n 0), (71, 3, 93, .getfield 605), (74, 1, 0, .iload_n 3), (75, 1, 0, .iaload), (76, 3, 196, .invokevirtual 148), (79, 1, 0, .aload_n 0), (80, 3, 117, .getfield 617), (83, 1, 0, .iload_n 2), (84, 1, 0, .aload_n 0), (85, 3, 96, .getfield 606), (88, 1, 0, .iload_n 3), (89, 1, 0, .iaload), (90, 1, 0, .iastore), (91, 3, 0, .iinc 2 (1)), (94, 3, 0, .goto (-62)), (97, 1, 0, .return_)]
abbrev mm_m_Mo_take : mm_M := (⟨"QualifierGateModel", "take", "(I)V"⟩, prog_13_method_29_code, 4, none, (9, 1, false), (1266, 1265, 55, 86), mm_c_Mo_take)
def mm_c_Mo_keep : List mm_I := [(0, 2, 0, .bipush (10)), (2, 1, 0, .iload_n 1), (3, 1, 0, .imul), (4, 1, 0, .iload_n 2), (5, 1, 0, .iadd), (6, 1, 0, .istore_n 3), (7, 1, 0, .aload_n 0), (8, 3, 87, .getfield 603), (11, 1, 0, .iload_n 3), (12, 1, 0, .aload_n 0), (13, 3, 108, .getfield 614), (16, 1, 0, .iload_n 2), (17, 1, 0, .iaload), (18, 1, 0, .iastore), (19, 1, 0, .aload_n 0), (20, 3, 90, .getfield 604), (23, 1, 0, .iload_n 3), (24, 1, 0, .aload_n 0), (25, 3, 111, .getfield 615), (28, 1, 0, .iload_n 2), (29, 1, 0, .iaload), (30, 1, 0, .iastore), (31, 1, 0, .aload_n 0), (32, 3, 99, .getfield 607), (35, 1, 0, .iload_n 3), (36, 1, 0, .aload_n 0), (37, 3, 120, .getfield 618), (40, 1, 0, .iload_n 2), (41, 1, 0, .baload), (42, 1, 0, .bastore), (43, 1, 0, .aload_n 0), (44, 3, 93, .getfield 605), (47, 1, 0, .iload_n 3), (48, 1, 0, .aload_n 0), (49, 3, 114, .getfield 616), (52, 1, 0, .iload_n 2), (53, 1, 0, .iaload), (54, 1, 0, .iastore), (55, 1, 0, .aload_n 0), (56, 3, 96, .getfield 606), (59, 1, 0, .iload_n 3), (60, 1, 0, .iload_n 2), (61, 2, 0, .bipush (6)), (63, 3, 0, .if_icmp .ge (7)), (66, 1, 0, .iconst (-1)), (67, 3, 0, .goto (9)), (70, 1, 0, .aload_n 0), (71, 3, 117, .getfield 617), (74, 1, 0, .iload_n 2), (75, 1, 0, .iaload), (76, 1, 0, .iastore), (77, 1, 0, .return_)]
abbrev mm_m_Mo_keep : mm_M := (⟨"QualifierGateModel", "keep", "(II)V"⟩, prog_13_method_30_code, 4, none, (9, 2, false), (1230, 1229, 46, 86), mm_c_Mo_keep)
def mm_c_Mo_come : List mm_I := [(0, 1, 0, .iload_n 1), (1, 1, 0, .aload_n 0), (2, 3, 45, .getfield 589), (5, 1, 0, .aload_n 0), (6, 3, 102, .getfield 608), (9, 1, 0, .iaload), (10, 3, 0, .if_icmp .ge (14)), (13, 1, 0, .aload_n 0), (14, 3, 78, .getfield 600), (17, 1, 0, .iload_n 1), (18, 1, 0, .iaload), (19, 2, 0, .bipush (-2)), (21, 3, 0, .if_icmp .ne (4)), (24, 1, 0, .return_), (25, 1, 0, .iload_n 2), (26, 3, 0, .ifCond .ne (25)), (29, 1, 0, .aload_n 0), (30, 3, 78, .getfield 600), (33, 1, 0, .iload_n 1), (34, 1, 0, .iaload), (35, 3, 0, .ifCond .lt (30)), (38, 1, 0, .aload_n 0), (39, 3, 78, .getfield 600), (42, 1, 0, .iload_n 1), (43, 1, 0, .iaload), (44, 1, 0, .aload_n 0), (45, 3, 193, .getfield 611), (48, 3, 0, .if_icmp .eq (17)), (51, 1, 0, .aload_n 0), (52, 3, 78, .getfield 600), (55, 1, 0, .iload_n 1), (56, 2, 0, .bipush (-2)), (58, 1, 0, .iastore), (59, 1, 0, .aload_n 0), (60, 1, 0, .iconst (1)), (61, 3, 209, .putfield 610), (64, 1, 0, .return_), (65, 1, 0, .aload_n 0), (66, 3, 78, .getfield 600), (69, 1, 0, .iload_n 1), (70, 1, 0, .iaload), (71, 3, 0, .ifCond .ge (64)), (74, 1, 0, .aload_n 0), (75, 3, 78, .getfield 600), (78, 1, 0, .iload_n 1), (79, 1, 0, .aload_n 0), (80, 3, 193, .getfield 611), (83, 1, 0, .iastore), (84, 1, 0, .aload_n 0), (85, 3, 81, .getfield 601), (88, 1, 0, .iload_n 1), (89, 1, 0, .aload_n 0), (90, 3, 203, .getfield 612), (93, 1, 0, .iastore), (94, 1, 0, .aload_n 0), (95, 3, 84, .getfield 602), (98, 1, 0, .iload_n 1), (99, 1, 0, .aload_n 0), (100, 3, 206, .getfield 613), (103, 1, 0, .iastore), (104, 1, 0, .iconst (0)), (105, 1, 0, .istore_n 3), (106, 1, 0, .iload_n 3), (107, 2, 0, .bipush (6)), (109, 1, 0, .aload_n 0), (110, 3, 193, .getfield 611), (113, 1, 0, .iadd), (114, 3, 0, .if_icmp .ge (15)), (117, 1, 0, .aload_n 0), (118, 1, 0, .iload_n 1), (119, 1, 0, .iload_n 3), (120, 3, 213, .invokevirtual 153), (123, 3, 0, .iinc 3 (1)), (126, 3, 0, .goto (-20)), (129, 1, 0, .aload_n 0), (130, 1, 0, .iconst (1)), (131, 3, 209, .putfield 610), (134, 1, 0, .return_), (135, 1, 0, .aload_n 0), (136, 3, 81, .getfield 601), (139, 1, 0, .iload_n 1), (140, 1, 0, .iaload), (141, 1, 0, .aload_n 0), (142, 3, 203, .getfield 612), (145, 3, 0, .if_icmp .ne (7)), (148, 1, 0, .iconst (1)), (149, 3, 0, .goto (4)), (152, 1, 0, .iconst (0)), (153, 1, 0, .istore_n 3), (154, 1, 0, .iconst (0)), (155, 2, 0, .istore 4), (157, 2, 0, .iload 4), (159, 2, 0, .bipush (6)), (161, 1, 0, .aload_n 0), (162, 3, 193, .getfield 611), (165, 1, 0, .iadd), (166, 3, 0, .if_icmp .ge (23)), (169, 1, 0, .aload_n 0), (170, 2, 0, .bipush (10)), (172, 1, 0, .iload_n 1), (173, 1, 0, .imul), (174, 2, 0, .iload 4), (176, 1, 0, .iadd), (177, 2, 0, .iload 4), (179, 1, 0, .iload_n 3), (180, 3, 217, .invokevirtual 155), (183, 3, 0, .iinc 4 (1)), (186, 3, 0, .goto (-29)), (189, 1, 0, .iload_n 3), (190, 3, 0, .ifCond .eq (17)), (193, 1, 0, .aload_n 0), (194, 3, 84, .getfield 602), (197, 1, 0, .iload_n 1), (198, 1, 0, .iaload), (199, 1, 0, .aload_n 0), (200, 3, 206, .getfield 613), (203, 1, 0, .iand), (204, 3, 0, .goto (4)), (207, 1, 0, .iconst (0)), (208, 2, 0, .istore 4), (210, 2, 0, .iload 4), (212, 1, 0, .aload_n 0), (213, 3, 84, .getfield 602), (216, 1, 0, .iload_n 1), (217, 1, 0, .iaload), (218, 3, 0, .if_icmp .ne (16)), (221, 1, 0, .iload_n 3), (222, 3, 0, .ifCond .ne (17)), (225, 1, 0, .aload_n 0), (226, 3, 81, .getfield 601), (229, 1, 0, .iload_n 1), (230, 1, 0, .iaload), (231, 3, 0, .ifCond .lt (8)), (234, 1, 0, .aload_n 0), (235, 1, 0, .iconst (1)), (236, 3, 209, .putfield 610), (239, 1, 0, .aload_n 0), (240, 3, 84, .getfield 602), (243, 1, 0, .iload_n 1), (244, 2, 0, .iload 4), (246, 1, 0, .iastore), (247, 1, 0, .iload_n 3), (248, 3, 0, .ifCond .ne (10)), (251, 1, 0, .aload_n 0), (252, 3, 81, .getfield 601), (255, 1, 0, .iload_n 1), (256, 1, 0, .iconst (-1)), (257, 1, 0, .iastore), (258, 1, 0, .return_)]
abbrev mm_m_Mo_come : mm_M := (⟨"QualifierGateModel", "come", "(IZ)V"⟩, prog_13_method_31_code, 5, none, (9, 2, false), (1226, 1225, 45, 86), mm_c_Mo_come)
def mm_c_Mo_join : List mm_I := [(0, 1, 0, .aload_n 0), (1, 3, 87, .getfield 603), (4, 1, 0, .iload_n 1), (5, 1, 0, .iaload), (6, 2, 0, .istore 4), (8, 1, 0, .aload_n 0), (9, 3, 90, .getfield 604), (12, 1, 0, .iload_n 1), (13, 1, 0, .iaload), (14, 2, 0, .istore 5), (16, 2, 0, .iload 4), (18, 1, 0, .iconst (2)), (19, 3, 0, .if_icmp .ne (13)), (22, 1, 0, .aload_n 0), (23, 3, 108, .getfield 614), (26, 1, 0, .iload_n 2), (27, 1, 0, .iaload), (28, 1, 0, .iconst (3)), (29, 3, 0, .if_icmp .eq (19)), (32, 2, 0, .iload 4), (34, 1, 0, .iconst (3)), (35, 3, 0, .if_icmp .ne (38)), (38, 1, 0, .aload_n 0), (39, 3, 108, .getfield 614), (42, 1, 0, .iload_n 2), (43, 1, 0, .iaload), (44, 1, 0, .iconst (2)), (45, 3, 0, .if_icmp .ne (28)), (48, 2, 0, .iload 4), (50, 1, 0, .iconst (3)), (51, 3, 0, .if_icmp .ne (8)), (54, 2, 0, .iload 5), (56, 3, 0, .goto (9)), (59, 1, 0, .aload_n 0), (60, 3, 111, .getfield 615), (63, 1, 0, .iload_n 2), (64, 1, 0, .iaload), (65, 2, 0, .istore 5), (67, 1, 0, .iconst (3)), (68, 2, 0, .istore 4), (70, 3, 0, .goto (63)), (73, 2, 0, .iload 4), (75, 1, 0, .aload_n 0), (76, 3, 108, .getfield 614), (79, 1, 0, .iload_n 2), (80, 1, 0, .iaload), (81, 3, 0, .if_icmp .ne (13)), (84, 2, 0, .iload 4), (86, 1, 0, .iconst (4)), (87, 3, 0, .if_icmp .ne (13)), (90, 1, 0, .iload_n 3), (91, 3, 0, .ifCond .ne (9)), (94, 1, 0, .iconst (0)), (95, 2, 0, .istore 4), (97, 3, 0, .goto (36)), (100, 2, 0, .iload 4), (102, 1, 0, .iconst (3)), (103, 3, 0, .if_icmp .ne (30)), (106, 1, 0, .aload_n 0), (107, 1, 0, .aload_n 0), (108, 3, 111, .getfield 615), (111, 1, 0, .iload_n 2), (112, 1, 0, .iaload), (113, 2, 0, .iload 5), (115, 3, 221, .invokevirtual 129), (118, 3, 0, .ifCond .ne (15)), (121, 1, 0, .aload_n 0), (122, 3, 13, .getfield 579), (125, 2, 0, .iload 5), (127, 1, 0, .iaload), (128, 2, 0, .istore 5), (130, 3, 0, .goto (-24)), (133, 2, 0, .iload 4), (135, 1, 0, .iconst (3)), (136, 3, 0, .if_icmp .ge (6)), (139, 1, 0, .iconst (-1)), (140, 2, 0, .istore 5), (142, 1, 0, .aload_n 0), (143, 3, 99, .getfield 607), (146, 1, 0, .iload_n 1), (147, 1, 0, .baload), (148, 3, 0, .ifCond .ne (12)), (151, 1, 0, .aload_n 0), (152, 3, 120, .getfield 618), (155, 1, 0, .iload_n 2), (156, 1, 0, .baload), (157, 3, 0, .ifCond .eq (7)), (160, 1, 0, .iconst (1)), (161, 3, 0, .goto (4)), (164, 1, 0, .iconst (0)), (165, 2, 0, .istore 6), (167, 1, 0, .aload_n 0), (168, 3, 93, .getfield 605), (171, 1, 0, .iload_n 1), (172, 1, 0, .iaload), (173, 1, 0, .aload_n 0), (174, 3, 114, .getfield 616), (177, 1, 0, .iload_n 2), (178, 1, 0, .iaload), (179, 1, 0, .ior), (180, 2, 0, .istore 7), (182, 1, 0, .iload_n 2), (183, 2, 0, .bipush (6)), (185, 3, 0, .if_icmp .lt (27)), (188, 1, 0, .aload_n 0), (189, 3, 96, .getfield 606), (192, 1, 0, .iload_n 1), (193, 1, 0, .iaload), (194, 1, 0, .aload_n 0), (195, 3, 117, .getfield 617), (198, 1, 0, .iload_n 2), (199, 1, 0, .iaload), (200, 3, 0, .if_icmp .ne (12)), (203, 1, 0, .aload_n 0), (204, 3, 117, .getfield 617), (207, 1, 0, .iload_n 2), (208, 1, 0, .iaload), (209, 3, 0, .goto (4)), (212, 1, 0, .iconst (-1)), (213, 2, 0, .istore 8), (215, 2, 0, .iload 4), (217, 1, 0, .aload_n 0), (218, 3, 87, .getfield 603), (221, 1, 0, .iload_n 1), (222, 1, 0, .iaload), (223, 3, 0, .if_icmp .ne (47)), (226, 2, 0, .iload 5), (228, 1, 0, .aload_n 0), (229, 3, 90, .getfield 604), (232, 1, 0, .iload_n 1), (233, 1, 0, .iaload), (234, 3, 0, .if_icmp .ne (36)), (237, 2, 0, .iload 6), (239, 1, 0, .aload_n 0), (240, 3, 99, .getfield 607), (243, 1, 0, .iload_n 1), (244, 1, 0, .baload), (245, 3, 0, .if_icmp .ne (25)), (248, 2, 0, .iload 7), (250, 1, 0, .aload_n 0), (251, 3, 93, .getfield 605), (254, 1, 0, .iload_n 1), (255, 1, 0, .iaload), (256, 3, 0, .if_icmp .ne (14)), (259, 2, 0, .iload 8), (261, 1, 0, .aload_n 0), (262, 3, 96, .getfield 606), (265, 1, 0, .iload_n 1), (266, 1, 0, .iaload), (267, 3, 0, .if_icmp .eq (8)), (270, 1, 0, .aload_n 0), (271, 1, 0, .iconst (1)), (272, 3, 209, .putfield 610), (275, 1, 0, .aload_n 0), (276, 3, 87, .getfield 603), (279, 1, 0, .iload_n 1), (280, 2, 0, .iload 4), (282, 1, 0, .iastore), (283, 1, 0, .aload_n 0), (284, 3, 90, .getfield 604), (287, 1, 0, .iload_n 1), (288, 2, 0, .iload 5), (290, 1, 0, .iastore), (291, 1, 0, .aload_n 0), (292, 3, 99, .getfield 607), (295, 1, 0, .iload_n 1), (296, 2, 0, .iload 6), (298, 1, 0, .bastore), (299, 1, 0, .aload_n 0), (300, 3, 93, .getfield 605), (303, 1, 0, .iload_n 1), (304, 2, 0, .iload 7), (306, 1, 0, .iastore), (307, 1, 0, .aload_n 0), (308, 3, 96, .getfield 606), (311, 1, 0, .iload_n 1), (312, 2, 0, .iload 8), (314, 1, 0, .iastore), (315, 1, 0, .return_)]
abbrev mm_m_Mo_join : mm_M := (⟨"QualifierGateModel", "join", "(IIZ)V"⟩, prog_13_method_32_code, 9, none, (9, 3, false), (1234, 1233, 47, 86), mm_c_Mo_join)
def mm_c_Mo_settle : List mm_I := [(0, 1, 0, .iconst (0)), (1, 1, 0, .istore_n 2), (2, 1, 0, .iload_n 2), (3, 2, 0, .bipush (6)), (5, 1, 0, .aload_n 0), (6, 3, 193, .getfield 611), (9, 1, 0, .iadd), (10, 3, 0, .if_icmp .ge (40)), (13, 1, 0, .aload_n 0), (14, 3, 108, .getfield 614), (17, 1, 0, .iload_n 2), (18, 1, 0, .iaload), (19, 1, 0, .iconst (4)), (20, 3, 0, .if_icmp .eq (6)), (23, 3, 0, .goto (21)), (26, 1, 0, .aload_n 0), (27, 3, 108, .getfield 614), (30, 1, 0, .iload_n 2), (31, 1, 0, .iload_n 1), (32, 1, 0, .iastore), (33, 1, 0, .iload_n 1), (34, 3, 0, .ifCond .ne (10)), (37, 1, 0, .aload_n 0), (38, 3, 111, .getfield 615), (41, 1, 0, .iload_n 2), (42, 1, 0, .iconst (-1)), (43, 1, 0, .iastore), (44, 3, 0, .iinc 2 (1)), (47, 3, 0, .goto (-45)), (50, 1, 0, .aload_n 0), (51, 1, 0, .iconst (-1)), (52, 3, 203, .putfield 612), (55, 1, 0, .aload_n 0), (56, 1, 0, .iconst (0)), (57, 3, 206, .putfield 613), (60, 1, 0, .return_)]
abbrev mm_m_Mo_settle : mm_M := (⟨"QualifierGateModel", "settle", "(I)V"⟩, prog_13_method_33_code, 3, none, (9, 1, false), (1278, 1277, 58, 86), mm_c_Mo_settle)
def mm_c_Mo_look : List mm_I := [(0, 1, 0, .aload_n 0), (1, 1, 0, .iload_n 1), (2, 3, 102, .putfield 608), (5, 1, 0, .iconst (0)), (6, 1, 0, .istore_n 2), (7, 1, 0, .iload_n 2), (8, 2, 0, .bipush (20)), (10, 3, 0, .if_icmp .ge (16)), (13, 1, 0, .aload_n 0), (14, 3, 78, .getfield 600), (17, 1, 0, .iload_n 2), (18, 1, 0, .iconst (-1)), (19, 1, 0, .iastore), (20, 3, 0, .iinc 2 (1)), (23, 3, 0, .goto (-16)), (26, 1, 0, .aload_n 0), (27, 3, 42, .getfield 588), (30, 1, 0, .iload_n 1), (31, 1, 0, .iaload), (32, 3, 0, .ifCond .ge (12)), (35, 1, 0, .aload_n 0), (36, 3, 45, .getfield 589), (39, 1, 0, .iload_n 1), (40, 1, 0, .iaload), (41, 3, 0, .ifCond .ne (4)), (44, 1, 0, .return_), (45, 1, 0, .aload_n 0), (46, 1, 0, .iload_n 1), (47, 3, 224, .invokevirtual 151), (50, 1, 0, .aload_n 0), (51, 1, 0, .iconst (0)), (52, 1, 0, .iconst (0)), (53, 3, 228, .invokevirtual 154), (56, 1, 0, .aload_n 0), (57, 1, 0, .iconst (1)), (58, 3, 209, .putfield 610), (61, 1, 0, .aload_n 0), (62, 3, 209, .getfield 610), (65, 3, 0, .ifCond .eq (45)), (68, 1, 0, .aload_n 0), (69, 1, 0, .iconst (0)), (70, 3, 209, .putfield 610), (73, 1, 0, .iconst (0)), (74, 1, 0, .istore_n 2), (75, 1, 0, .iload_n 2), (76, 1, 0, .aload_n 0), (77, 3, 45, .getfield 589), (80, 1, 0, .iload_n 1), (81, 1, 0, .iaload), (82, 3, 0, .if_icmp .ge (25)), (85, 1, 0, .aload_n 0), (86, 3, 78, .getfield 600), (89, 1, 0, .iload_n 2), (90, 1, 0, .iaload), (91, 1, 0, .iconst (-1)), (92, 3, 0, .if_icmp .eq (9)), (95, 1, 0, .aload_n 0), (96, 1, 0, .iload_n 1), (97, 1, 0, .iload_n 2), (98, 3, 232, .invokevirtual 158), (101, 3, 0, .iinc 2 (1)), (104, 3, 0, .goto (-29)), (107, 3, 0, .goto (-46)), (110, 1, 0, .return_)]
abbrev mm_m_Mo_look : mm_M := (⟨"QualifierGateModel", "look", "(I)V"⟩, prog_13_method_34_code, 3, none, (9, 1, false), (1214, 1213, 42, 86), mm_c_Mo_look)
def mm_c_Mo_flow : List mm_I := [(0, 1, 0, .aload_n 0), (1, 3, 78, .getfield 600), (4, 1, 0, .iload_n 2), (5, 1, 0, .iaload), (6, 2, 0, .bipush (-2)), (8, 3, 0, .if_icmp .eq (12)), (11, 1, 0, .aload_n 0), (12, 1, 0, .iload_n 1), (13, 1, 0, .iload_n 2), (14, 3, 235, .invokevirtual 147), (17, 3, 0, .ifCond .eq (7)), (20, 1, 0, .iconst (1)), (21, 3, 0, .goto (4)), (24, 1, 0, .iconst (0)), (25, 1, 0, .istore_n 3), (26, 1, 0, .aload_n 0), (27, 1, 0, .iload_n 1), (28, 1, 0, .iload_n 2), (29, 1, 0, .iconst (0)), (30, 3, 238, .invokevirtual 146), (33, 2, 0, .istore 4), (35, 1, 0, .aload_n 0), (36, 1, 0, .iload_n 1), (37, 1, 0, .iload_n 2), (38, 1, 0, .iconst (1)), (39, 3, 238, .invokevirtual 146), (42, 2, 0, .istore 5), (44, 1, 0, .aload_n 0), (45, 1, 0, .iload_n 1), (46, 1, 0, .iload_n 2), (47, 1, 0, .iconst (2)), (48, 3, 238, .invokevirtual 146), (51, 2, 0, .istore 6), (53, 1, 0, .iconst (-1)), (54, 2, 0, .istore 7), (56, 1, 0, .iload_n 3), (57, 3, 0, .ifCond .eq (8)), (60, 1, 0, .aload_n 0), (61, 1, 0, .iconst (0)), (62, 3, 193, .putfield 611), (65, 2, 0, .iload 6), (67, 3, 0, .ifCond .lt (32)), (70, 1, 0, .iload_n 3), (71, 3, 0, .ifCond .ne (21)), (74, 1, 0, .aload_n 0), (75, 1, 0, .iload_n 2), (76, 3, 241, .invokevirtual 152), (79, 1, 0, .aload_n 0), (80, 1, 0, .iconst (0)), (81, 3, 193, .putfield 611), (84, 1, 0, .aload_n 0), (85, 1, 0, .iconst (3)), (86, 1, 0, .iconst (0)), (87, 1, 0, .iconst (0)), (88, 1, 0, .iconst (0)), (89, 3, 200, .invokevirtual 149), (92, 1, 0, .aload_n 0), (93, 2, 0, .iload 6), (95, 1, 0, .iload_n 3), (96, 3, 228, .invokevirtual 154), (99, 1, 0, .iload_n 3), (100, 3, 0, .ifCond .ne (43)), (103, 1, 0, .aload_n 0), (104, 1, 0, .iload_n 2), (105, 3, 241, .invokevirtual 152), (108, 1, 0, .aload_n 0), (109, 3, 63, .getfield 595), (112, 2, 0, .bipush (20)), (114, 1, 0, .iload_n 1), (115, 1, 0, .imul), (116, 1, 0, .iload_n 2), (117, 1, 0, .iadd), (118, 1, 0, .iaload), (119, 2, 0, .bipush (15)), (121, 3, 0, .if_icmp .ne (16)), (124, 1, 0, .aload_n 0), (125, 3, 117, .getfield 617), (128, 1, 0, .iconst (5)), (129, 1, 0, .aload_n 0), (130, 3, 193, .getfield 611), (133, 1, 0, .iadd), (134, 1, 0, .iaload), (135, 2, 0, .istore 7), (137, 1, 0, .aload_n 0), (138, 1, 0, .iload_n 1), (139, 1, 0, .iload_n 2), (140, 3, 244, .invokevirtual 159), (143, 2, 0, .iload 5), (145, 3, 0, .ifCond .lt (46)), (148, 1, 0, .iload_n 3), (149, 3, 0, .ifCond .ne (35)), (152, 2, 0, .iload 7), (154, 3, 0, .ifCond .lt (30)), (157, 1, 0, .aload_n 0), (158, 3, 108, .getfield 614), (161, 2, 0, .iload 7), (163, 1, 0, .iaload), (164, 1, 0, .iconst (3)), (165, 3, 0, .if_icmp .ne (19)), (168, 1, 0, .aload_n 0), (169, 3, 108, .getfield 614), (172, 2, 0, .iload 7), (174, 1, 0, .iconst (2)), (175, 1, 0, .iastore), (176, 1, 0, .aload_n 0), (177, 3, 111, .getfield 615), (180, 2, 0, .iload 7), (182, 1, 0, .iconst (-1)), (183, 1, 0, .iastore), (184, 1, 0, .aload_n 0), (185, 2, 0, .iload 5), (187, 1, 0, .iload_n 3), (188, 3, 228, .invokevirtual 154), (191, 2, 0, .iload 4), (193, 3, 0, .ifCond .ge (4)), (196, 1, 0, .return_), (197, 1, 0, .iload_n 3), (198, 3, 0, .ifCond .ne (45)), (201, 2, 0, .iload 7), (203, 3, 0, .ifCond .lt (40)), (206, 2, 0, .bipush (10)), (208, 1, 0, .iload_n 2), (209, 1, 0, .imul), (210, 2, 0, .iload 7), (212, 1, 0, .iadd), (213, 2, 0, .istore 8), (215, 1, 0, .aload_n 0), (216, 2, 0, .iload 7), (218, 1, 0, .aload_n 0), (219, 3, 87, .getfield 603), (222, 2, 0, .iload 8), (224, 1, 0, .iaload), (225, 1, 0, .aload_n 0), (226, 3, 90, .getfield 604), (229, 2, 0, .iload 8), (231, 1, 0, .iaload), (232, 1, 0, .iconst (0)), (233, 1, 0, .aload_n 0), (234, 3, 93, .getfield 605), (237, 2, 0, .iload 8), (239, 1, 0, .iaload), (240, 3, 196, .invokevirtual 148), (243, 1, 0, .aload_n 0), (244, 2, 0, .iload 4), (246, 1, 0, .iload_n 3), (247, 3, 228, .invokevirtual 154), (250, 1, 0, .return_)]
abbrev mm_m_Mo_flow : mm_M := (⟨"QualifierGateModel", "flow", "(II)V"⟩, prog_13_method_35_code, 9, none, (9, 2, false), (1242, 1241, 49, 86), mm_c_Mo_flow)
def mm_c_Mo_effect : List mm_I := [(0, 1, 0, .aload_n 0), (1, 3, 63, .getfield 595), (4, 2, 0, .bipush (20)), (6, 1, 0, .iload_n 1), (7, 1, 0, .imul), (8, 1, 0, .iload_n 2), (9, 1, 0, .iadd), (10, 1, 0, .iaload), (11, 1, 0, .istore_n 3), (12, 1, 0, .aload_n 0), (13, 3, 66, .getfield 596), (16, 2, 0, .bipush (20)), (18, 1, 0, .iload_n 1), (19, 1, 0, .imul), (20, 1, 0, .iload_n 2), (21, 1, 0, .iadd), (22, 1, 0, .iaload), (23, 2, 0, .istore 4), (25, 1, 0, .iconst (5)), (26, 1, 0, .aload_n 0), (27, 3, 193, .getfield 611), (30, 1, 0, .iadd), (31, 2, 0, .istore 5), (33, 1, 0, .iload_n 3), (34, 1, 0, .iconst (4)), (35, 3, 0, .if_icmp .ne (52)), (38, 1, 0, .aload_n 0), (39, 1, 0, .aload_n 0), (40, 3, 108, .getfield 614), (43, 2, 0, .iload 5), (45, 1, 0, .iaload), (46, 1, 0, .aload_n 0), (47, 3, 111, .getfield 615), (50, 2, 0, .iload 5), (52, 1, 0, .iaload), (53, 1, 0, .aload_n 0), (54, 3, 120, .getfield 618), (57, 2, 0, .iload 5), (59, 1, 0, .baload), (60, 1, 0, .aload_n 0), (61, 3, 114, .getfield 616), (64, 2, 0, .iload 5), (66, 1, 0, .iaload), (67, 3, 200, .invokevirtual 149), (70, 1, 0, .aload_n 0), (71, 3, 117, .getfield 617), (74, 2, 0, .iload 5), (76, 1, 0, .iconst (1)), (77, 1, 0, .iadd), (78, 1, 0, .aload_n 0), (79, 3, 117, .getfield 617), (82, 2, 0, .iload 5), (84, 1, 0, .iaload), (85, 1, 0, .iastore), (86, 1, 0, .return_), (87, 1, 0, .iload_n 3), (88, 2, 0, .bipush (8)), (90, 3, 0, .if_icmp .ne (24)), (93, 1, 0, .aload_n 0), (94, 1, 0, .aload_n 0), (95, 3, 108, .getfield 614), (98, 2, 0, .iload 5), (100, 1, 0, .iaload), (101, 1, 0, .iconst (4)), (102, 3, 0, .if_icmp .ne (7)), (105, 1, 0, .iconst (3)), (106, 3, 0, .goto (4)), (109, 1, 0, .iconst (0)), (110, 3, 247, .invokevirtual 156), (113, 1, 0, .return_), (114, 1, 0, .aload_n 0), (115, 1, 0, .dup), (116, 3, 193, .getfield 611), (119, 1, 0, .aload_n 0), (120, 1, 0, .iload_n 1), (121, 1, 0, .iload_n 3), (122, 2, 0, .iload 4), (124, 3, 186, .invokevirtual 144), (127, 1, 0, .isub), (128, 3, 193, .putfield 611), (131, 2, 0, .bipush (6)), (133, 1, 0, .aload_n 0), (134, 3, 193, .getfield 611), (137, 1, 0, .iadd), (138, 2, 0, .istore 6), (140, 1, 0, .iload_n 3), (141, 67, 0, .tableswitch (459) (0) (12) #[67, 78, 89, 137, 459, 459, 211, 238, 459, 260, 352, 379, 435]), (208, 1, 0, .aload_n 0), (209, 1, 0, .iconst (1)), (210, 1, 0, .iconst (-1)), (211, 1, 0, .iconst (0)), (212, 1, 0, .iconst (0)), (213, 3, 200, .invokevirtual 149), (216, 3, 0, .goto (384)), (219, 1, 0, .aload_n 0), (220, 1, 0, .iconst (2)), (221, 1, 0, .iconst (-1)), (222, 1, 0, .iconst (1)), (223, 1, 0, .iconst (0)), (224, 3, 200, .invokevirtual 149), (227, 3, 0, .goto (373)), (230, 1, 0, .aload_n 0), (231, 1, 0, .aload_n 0), (232, 3, 108, .getfield 614), (235, 2, 0, .iload 4), (237, 1, 0, .iaload), (238, 1, 0, .aload_n 0), (239, 3, 111, .getfield 615), (242, 2, 0, .iload 4), (244, 1, 0, .iaload), (245, 1, 0, .aload_n 0), (246, 3, 120, .getfield 618), (249, 2, 0, .iload 4), (251, 1, 0, .baload), (252, 1, 0, .aload_n 0), (253, 3, 114, .getfield 616), (256, 2, 0, .iload 4), (258, 1, 0, .iaload), (259, 3, 200, .invokevirtual 149), (262, 1, 0, .aload_n 0), (263, 3, 117, .getfield 617), (266, 1, 0, .iconst (5)), (267, 1, 0, .aload_n 0), (268, 3, 193, .getfield 611), (271, 1, 0, .iadd), (272, 2, 0, .iload 4), (274, 1, 0, .iastore), (275, 3, 0, .goto (325)), (278, 1, 0, .aload_n 0), (279, 2, 0, .iload 4), (281, 1, 0, .aload_n 0), (282, 3, 108, .getfield 614), (285, 2, 0, .iload 6), (287, 1, 0, .iaload), (288, 1, 0, .aload_n 0), (289, 3, 111, .getfield 615), (292, 2, 0, .iload 6), (294, 1, 0, .iaload), (295, 1, 0, .aload_n 0), (296, 3, 120, .getfield 618), (299, 2, 0, .iload 6), (301, 1, 0, .baload), (302, 1, 0, .aload_n 0), (303, 3, 114, .getfield 616), (306, 2, 0, .iload 6), (308, 1, 0, .iaload), (309, 3, 196, .invokevirtual 148), (312, 2, 0, .bipush (6)), (314, 2, 0, .istore 7), (316, 2, 0, .iload 7), (318, 2, 0, .iload 6), (320, 3, 0, .if_icmp .ge (29)), (323, 1, 0, .aload_n 0), (324, 3, 117, .getfield 617), (327, 2, 0, .iload 7), (329, 1, 0, .iaload), (330, 2, 0, .iload 4), (332, 3, 0, .if_icmp .ne (11)), (335, 1, 0, .aload_n 0), (336, 3, 117, .getfield 617), (339, 2, 0, .iload 7), (341, 1, 0, .iconst (-1)), (342, 1, 0, .iastore), (343, 3, 0, .iinc 7 (1)), (346, 3, 0, .goto (-30)), (349, 3, 0, .goto (251)), (352, 1, 0, .aload_n 0), (353, 1, 0, .iconst (1)), (354, 1, 0, .iconst (-1)), (355, 1, 0, .iconst (0)), (356, 1, 0, .aload_n 0), (357, 3, 114, .getfield 616), (360, 2, 0, .iload 6), (362, 1, 0, .iaload), (363, 1, 0, .aload_n 0), (364, 3, 114, .getfield 616), (367, 2, 0, .iload 6), (369, 1, 0, .iconst (1)), (370, 1, 0, .iadd), (371, 1, 0, .iaload), (372, 1, 0, .ior), (373, 3, 200, .invokevirtual 149), (376, 3, 0, .goto (224)), (379, 1, 0, .aload_n 0), (380, 1, 0, .iconst (0)), (381, 3, 247, .invokevirtual 156), (384, 1, 0, .aload_n 0), (385, 1, 0, .iload_n 2), (386, 3, 203, .putfield 612), (389, 1, 0, .aload_n 0), (390, 1, 0, .iconst (4)), (391, 2, 0, .iload 4), (393, 1, 0, .iconst (0)), (394, 1, 0, .iconst (0)), (395, 3, 200, .invokevirtual 149), (398, 3, 0, .goto (202)), (401, 1, 0, .aload_n 0), (402, 3, 108, .getfield 614), (405, 2, 0, .iload 6), (407, 1, 0, .iaload), (408, 3, 0, .ifCond .eq (37)), (411, 1, 0, .aload_n 0), (412, 3, 108, .getfield 614), (415, 2, 0, .iload 6), (417, 1, 0, .iaload), (418, 1, 0, .iconst (1)), (419, 3, 0, .if_icmp .eq (26)), (422, 1, 0, .aload_n 0), (423, 3, 108, .getfield 614), (426, 2, 0, .iload 6), (428, 1, 0, .iaload), (429, 1, 0, .iconst (4)), (430, 3, 0, .if_icmp .ne (19)), (433, 1, 0, .aload_n 0), (434, 3, 206, .getfield 613), (437, 2, 0, .iload 4), (439, 1, 0, .ishr), (440, 1, 0, .iconst (1)), (441, 1, 0, .iand), (442, 3, 0, .ifCond .ne (7)), (445, 1, 0, .iconst (1)), (446, 3, 0, .goto (4)), (449, 1, 0, .iconst (0)), (450, 2, 0, .istore 7), (452, 1, 0, .aload_n 0), (453, 1, 0, .aload_n 0), (454, 3, 20, .getfield 581), (457, 2, 0, .iload 4), (459, 1, 0, .iaload), (460, 1, 0, .aload_n 0), (461, 3, 30, .getfield 584), (464, 2, 0, .iload 4), (466, 1, 0, .baload), (467, 3, 0, .ifCond .ne (8)), (470, 2, 0, .iload 7), (472, 3, 0, .ifCond .eq (7)), (475, 1, 0, .iconst (1)), (476, 3, 0, .goto (4)), (479, 1, 0, .iconst (0)), (480, 1, 0, .aload_n 0), (481, 3, 23, .getfield 582), (484, 2, 0, .iload 4), (486, 1, 0, .iaload), (487, 3, 250, .invokevirtual 150), (490, 3, 0, .goto (110)), (493, 1, 0, .aload_n 0), (494, 3, 108, .getfield 614), (497, 2, 0, .iload 6), (499, 1, 0, .iaload), (500, 1, 0, .iconst (4)), (501, 3, 0, .if_icmp .ne (99)), (504, 1, 0, .aload_n 0), (505, 1, 0, .dup), (506, 3, 206, .getfield 613), (509, 1, 0, .iconst (1)), (510, 2, 0, .iload 4), (512, 1, 0, .ishl), (513, 1, 0, .ior), (514, 3, 206, .putfield 613), (517, 3, 0, .goto (83)), (520, 1, 0, .aload_n 0), (521, 3, 51, .getfield 591), (524, 1, 0, .iconst (4)), (525, 2, 0, .iload 4), (527, 1, 0, .imul), (528, 1, 0, .iconst (3)), (529, 1, 0, .iadd), (530, 1, 0, .iaload), (531, 2, 0, .bipush (-2)), (533, 3, 0, .if_icmp .le (67)), (536, 1, 0, .aload_n 0), (537, 1, 0, .aload_n 0), (538, 3, 51, .getfield 591), (541, 1, 0, .iconst (4)), (542, 2, 0, .iload 4), (544, 1, 0, .imul), (545, 1, 0, .iconst (3)), (546, 1, 0, .iadd), (547, 1, 0, .iaload), (548, 1, 0, .aload_n 0), (549, 3, 60, .getfield 594), (552, 1, 0, .iconst (4)), (553, 2, 0, .iload 4), (555, 1, 0, .imul), (556, 1, 0, .iconst (3)), (557, 1, 0, .iadd), (558, 1, 0, .baload), (559, 1, 0, .aload_n 0), (560, 3, 54, .getfield 592), (563, 1, 0, .iconst (4)), (564, 2, 0, .iload 4), (566, 1, 0, .imul), (567, 1, 0, .iconst (3)), (568, 1, 0, .iadd), (569, 1, 0, .iaload), (570, 3, 250, .invokevirtual 150), (573, 3, 0, .goto (27)), (576, 1, 0, .aload_n 0), (577, 1, 0, .iconst (3)), (578, 2, 0, .iload 4), (580, 1, 0, .aload_n 0), (581, 3, 120, .getfield 618), (584, 2, 0, .iload 6), (586, 1, 0, .baload), (587, 1, 0, .aload_n 0), (588, 3, 114, .getfield 616), (591, 2, 0, .iload 6), (593, 1, 0, .iaload), (594, 3, 200, .invokevirtual 149), (597, 3, 0, .goto (3)), (600, 1, 0, .return_)]
abbrev mm_m_Mo_effect : mm_M := (⟨"QualifierGateModel", "effect", "(II)V"⟩, prog_13_method_36_code, 8, none, (9, 2, false), (1274, 1273, 57, 86), mm_c_Mo_effect)
def mm_c_Mo_wrongFor : List mm_I := [(0, 1, 0, .iload_n 2), (1, 1, 0, .iconst (-1)), (2, 3, 0, .if_icmp .ne (13)), (5, 1, 0, .aload_n 0), (6, 3, 108, .getfield 614), (9, 1, 0, .iload_n 1), (10, 1, 0, .iaload), (11, 1, 0, .iconst (1)), (12, 3, 0, .if_icmp .ne (16)), (15, 1, 0, .iload_n 2), (16, 3, 0, .ifCond .lt (14)), (19, 1, 0, .aload_n 0), (20, 1, 0, .iload_n 1), (21, 1, 0, .iload_n 2), (22, 3, 254, .invokevirtual 161), (25, 3, 0, .ifCond .ne (5)), (28, 1, 0, .iconst (4)), (29, 1, 0, .ireturn), (30, 1, 0, .iload_n 2), (31, 3, 0, .ifCond .lt (15)), (34, 1, 0, .aload_n 0), (35, 3, 108, .getfield 614), (38, 1, 0, .iload_n 1), (39, 1, 0, .iaload), (40, 1, 0, .iconst (4)), (41, 3, 0, .if_icmp .ne (5)), (44, 1, 0, .iconst (5)), (45, 1, 0, .ireturn), (46, 1, 0, .iload_n 2), (47, 3, 0, .ifCond .lt (19)), (50, 1, 0, .aload_n 0), (51, 3, 120, .getfield 618), (54, 1, 0, .iload_n 1), (55, 1, 0, .baload), (56, 3, 0, .ifCond .eq (10)), (59, 1, 0, .iload_n 3), (60, 3, 0, .ifCond .ne (6)), (63, 2, 0, .bipush (6)), (65, 1, 0, .ireturn), (66, 1, 0, .aload_n 0), (67, 3, 114, .getfield 616), (70, 1, 0, .iload_n 1), (71, 1, 0, .iaload), (72, 2, 0, .iload 4), (74, 1, 0, .iconst (-1)), (75, 1, 0, .ixor), (76, 1, 0, .iand), (77, 3, 0, .ifCond .eq (8)), (80, 2, 0, .bipush (7)), (82, 3, 0, .goto (5)), (85, 2, 0, .bipush (9)), (87, 1, 0, .ireturn)]
abbrev mm_m_Mo_wrongFor : mm_M := (⟨"QualifierGateModel", "wrongFor", "(IIZI)I"⟩, prog_13_method_37_code, 5, some .int, (9, 4, false), (1294, 1293, 62, 86), mm_c_Mo_wrongFor)
def mm_c_Mo_isRef : List mm_I := [(0, 1, 0, .aload_n 0), (1, 3, 108, .getfield 614), (4, 1, 0, .iload_n 1), (5, 1, 0, .iaload), (6, 1, 0, .iconst (2)), (7, 3, 0, .if_icmp .eq (27)), (10, 1, 0, .aload_n 0), (11, 3, 108, .getfield 614), (14, 1, 0, .iload_n 1), (15, 1, 0, .iaload), (16, 1, 0, .iconst (3)), (17, 3, 0, .if_icmp .lt (21)), (20, 1, 0, .aload_n 0), (21, 1, 0, .aload_n 0), (22, 3, 111, .getfield 615), (25, 1, 0, .iload_n 1), (26, 1, 0, .iaload), (27, 1, 0, .iload_n 2), (28, 3, 221, .invokevirtual 129), (31, 3, 0, .ifCond .eq (7)), (34, 1, 0, .iconst (1)), (35, 3, 0, .goto (4)), (38, 1, 0, .iconst (0)), (39, 1, 0, .ireturn)]
abbrev mm_m_Mo_isRef : mm_M := (⟨"QualifierGateModel", "isRef", "(II)Z"⟩, prog_13_method_38_code, 3, some .boolean, (9, 2, false), (1298, 1297, 63, 86), mm_c_Mo_isRef)
def mm_c_Mo_wrongObject : List mm_I := [(0, 1, 0, .aload_n 0), (1, 1, 0, .iload_n 1), (2, 1, 0, .iload_n 2), (3, 3, 254, .invokevirtual 161), (6, 3, 0, .ifCond .ne (5)), (9, 1, 0, .iconst (4)), (10, 1, 0, .ireturn), (11, 1, 0, .iload_n 3), (12, 3, 0, .ifCond .ne (15)), (15, 1, 0, .aload_n 0), (16, 3, 108, .getfield 614), (19, 1, 0, .iload_n 1), (20, 1, 0, .iaload), (21, 1, 0, .iconst (4)), (22, 3, 0, .if_icmp .ne (5)), (25, 1, 0, .iconst (5)), (26, 1, 0, .ireturn), (27, 2, 0, .iload 4), (29, 3, 0, .ifCond .eq (15)), (32, 1, 0, .aload_n 0), (33, 3, 120, .getfield 618), (36, 1, 0, .iload_n 1), (37, 1, 0, .baload), (38, 3, 0, .ifCond .eq (6)), (41, 2, 0, .bipush (6)), (43, 1, 0, .ireturn), (44, 2, 0, .iload 5), (46, 3, 0, .ifCond .eq (17)), (49, 1, 0, .aload_n 0), (50, 3, 114, .getfield 616), (53, 1, 0, .iload_n 1), (54, 1, 0, .iaload), (55, 3, 0, .ifCond .eq (8)), (58, 2, 0, .bipush (7)), (60, 3, 0, .goto (5)), (63, 2, 0, .bipush (9)), (65, 1, 0, .ireturn)]
abbrev mm_m_Mo_wrongObject : mm_M := (⟨"QualifierGateModel", "wrongObject", "(IIZZZ)I"⟩, prog_13_method_39_code, 6, some .int, (9, 5, false), (1309, 1308, 65, 86), mm_c_Mo_wrongObject)
def mm_c_Mo_least : List mm_I := [(0, 1, 0, .iload_n 0), (1, 1, 0, .iload_n 1), (2, 3, 0, .if_icmp .ge (7)), (5, 1, 0, .iload_n 0), (6, 3, 0, .goto (4)), (9, 1, 0, .iload_n 1), (10, 1, 0, .ireturn)]
abbrev mm_m_Mo_least : mm_M := (⟨"QualifierGateModel", "least", "(II)I"⟩, prog_13_method_40_code, 2, some .int, (9, 2, true), (1301, 1300, 0, 86), mm_c_Mo_least)
def mm_c_Mo_errorAt : List mm_I := [(0, 1, 0, .iconst (0)), (1, 1, 0, .istore_n 3), (2, 1, 0, .iload_n 3), (3, 1, 0, .iconst (3)), (4, 3, 0, .if_icmp .ge (27)), (7, 1, 0, .aload_n 0), (8, 1, 0, .iload_n 1), (9, 1, 0, .iload_n 2), (10, 1, 0, .iload_n 3), (11, 3, 238, .invokevirtual 146), (14, 1, 0, .aload_n 0), (15, 3, 45, .getfield 589), (18, 1, 0, .iload_n 1), (19, 1, 0, .iaload), (20, 3, 0, .if_icmp .lt (5)), (23, 1, 0, .iconst (1)), (24, 1, 0, .ireturn), (25, 3, 0, .iinc 3 (1)), (28, 3, 0, .goto (-26)), (31, 1, 0, .aload_n 0), (32, 3, 78, .getfield 600), (35, 1, 0, .iload_n 2), (36, 1, 0, .iaload), (37, 2, 0, .bipush (-2)), (39, 3, 0, .if_icmp .ne (5)), (42, 1, 0, .iconst (2)), (43, 1, 0, .ireturn), (44, 1, 0, .aload_n 0), (45, 1, 0, .iload_n 1), (46, 1, 0, .iload_n 2), (47, 3, 235, .invokevirtual 147), (50, 3, 0, .ifCond .eq (5)), (53, 1, 0, .iconst (3)), (54, 1, 0, .ireturn), (55, 1, 0, .aload_n 0), (56, 1, 0, .iload_n 2), (57, 3, 241, .invokevirtual 152), (60, 1, 0, .aload_n 0), (61, 3, 63, .getfield 595), (64, 2, 0, .bipush (20)), (66, 1, 0, .iload_n 1), (67, 1, 0, .imul), (68, 1, 0, .iload_n 2), (69, 1, 0, .iadd), (70, 1, 0, .iaload), (71, 1, 0, .istore_n 3), (72, 1, 0, .aload_n 0), (73, 3, 66, .getfield 596), (76, 2, 0, .bipush (20)), (78, 1, 0, .iload_n 1), (79, 1, 0, .imul), (80, 1, 0, .iload_n 2), (81, 1, 0, .iadd), (82, 1, 0, .iaload), (83, 2, 0, .istore 4), (85, 1, 0, .iconst (5)), (86, 1, 0, .aload_n 0), (87, 3, 193, .getfield 611), (90, 1, 0, .iadd), (91, 2, 0, .istore 5), (93, 1, 0, .iload_n 3), (94, 62, 0, .tableswitch (287) (6) (17) #[62, 287, 99, 135, 152, 201, 208, 287, 88, 208, 230, 219]), (156, 1, 0, .aload_n 0), (157, 2, 0, .iload 5), (159, 1, 0, .iconst (-1)), (160, 1, 0, .iconst (1)), (161, 2, 0, .bipush (15)), (163, 3, 257, .invokevirtual 160), (166, 1, 0, .aload_n 0), (167, 2, 0, .iload 5), (169, 1, 0, .iconst (1)), (170, 1, 0, .isub), (171, 1, 0, .iconst (-1)), (172, 1, 0, .iconst (1)), (173, 2, 0, .bipush (15)), (175, 3, 257, .invokevirtual 160), (178, 3, 261, .invokestatic 163), (181, 1, 0, .ireturn), (182, 1, 0, .aload_n 0), (183, 2, 0, .iload 5), (185, 1, 0, .iconst (-1)), (186, 1, 0, .iconst (1)), (187, 2, 0, .bipush (15)), (189, 3, 257, .invokevirtual 160), (192, 1, 0, .ireturn), (193, 1, 0, .aload_n 0), (194, 3, 108, .getfield 614), (197, 2, 0, .iload 5), (199, 1, 0, .iaload), (200, 1, 0, .iconst (4)), (201, 3, 0, .if_icmp .eq (7)), (204, 1, 0, .iconst (4)), (205, 3, 0, .goto (23)), (208, 1, 0, .aload_n 0), (209, 1, 0, .aload_n 0), (210, 3, 111, .getfield 615), (213, 2, 0, .iload 5), (215, 1, 0, .iaload), (216, 3, 264, .invokevirtual 166), (219, 3, 0, .ifCond .eq (7)), (222, 1, 0, .iconst (5)), (223, 3, 0, .goto (5)), (226, 2, 0, .bipush (9)), (228, 1, 0, .ireturn), (229, 1, 0, .aload_n 0), (230, 2, 0, .iload 5), (232, 1, 0, .aload_n 0), (233, 3, 17, .getfield 580), (236, 2, 0, .iload 4), (238, 1, 0, .iaload), (239, 1, 0, .iconst (1)), (240, 1, 0, .iconst (1)), (241, 1, 0, .iconst (0)), (242, 3, 267, .invokevirtual 162), (245, 1, 0, .ireturn), (246, 1, 0, .aload_n 0), (247, 2, 0, .iload 5), (249, 1, 0, .aload_n 0), (250, 3, 20, .getfield 581), (253, 2, 0, .iload 4), (255, 1, 0, .iaload), (256, 1, 0, .aload_n 0), (257, 3, 30, .getfield 584), (260, 2, 0, .iload 4), (262, 1, 0, .baload), (263, 1, 0, .aload_n 0), (264, 3, 23, .getfield 582), (267, 2, 0, .iload 4), (269, 1, 0, .iaload), (270, 3, 257, .invokevirtual 160), (273, 1, 0, .aload_n 0), (274, 2, 0, .iload 5), (276, 1, 0, .iconst (1)), (277, 1, 0, .isub), (278, 1, 0, .aload_n 0), (279, 3, 17, .getfield 580), (282, 2, 0, .iload 4), (284, 1, 0, .iaload), (285, 1, 0, .iconst (1)), (286, 1, 0, .iconst (1)), (287, 1, 0, .iconst (0)), (288, 3, 267, .invokevirtual 162), (291, 3, 261, .invokestatic 163), (294, 1, 0, .ireturn), (295, 1, 0, .aload_n 0), (296, 2, 0, .iload 4), (298, 3, 271, .invokevirtual 165), (301, 1, 0, .ireturn), (302, 1, 0, .aload_n 0), (303, 2, 0, .iload 5), (305, 1, 0, .iconst (0)), (306, 1, 0, .iconst (0)), (307, 1, 0, .iconst (0)), (308, 1, 0, .iconst (0)), (309, 3, 267, .invokevirtual 162), (312, 1, 0, .ireturn), (313, 1, 0, .aload_n 0), (314, 2, 0, .iload 5), (316, 1, 0, .iconst (0)), (317, 1, 0, .iconst (0)), (318, 1, 0, .iconst (1)), (319, 1, 0, .iconst (1)), (320, 3, 267, .invokevirtual 162), (323, 1, 0, .ireturn), (324, 1, 0, .aload_n 0), (325, 3, 51, .getfield 591), (328, 1, 0, .iconst (4)), (329, 1, 0, .iload_n 1), (330, 1, 0, .imul), (331, 1, 0, .iconst (3)), (332, 1, 0, .iadd), (333, 1, 0, .iaload), (334, 2, 0, .bipush (-2)), (336, 3, 0, .if_icmp .ne (8)), (339, 2, 0, .bipush (9)), (341, 3, 0, .goto (39)), (344, 1, 0, .aload_n 0), (345, 2, 0, .iload 5), (347, 1, 0, .aload_n 0), (348, 3, 51, .getfield 591), (351, 1, 0, .iconst (4)), (352, 1, 0, .iload_n 1), (353, 1, 0, .imul), (354, 1, 0, .iconst (3)), (355, 1, 0, .iadd), (356, 1, 0, .iaload), (357, 1, 0, .aload_n 0), (358, 3, 60, .getfield 594), (361, 1, 0, .iconst (4)), (362, 1, 0, .iload_n 1), (363, 1, 0, .imul), (364, 1, 0, .iconst (3)), (365, 1, 0, .iadd), (366, 1, 0, .baload), (367, 1, 0, .aload_n 0), (368, 3, 54, .getfield 592), (371, 1, 0, .iconst (4)), (372, 1, 0, .iload_n 1), (373, 1, 0, .imul), (374, 1, 0, .iconst (3)), (375, 1, 0, .iadd), (376, 1, 0, .iaload), (377, 3, 257, .invokevirtual 160), (380, 1, 0, .ireturn), (381, 2, 0, .bipush (9)), (383, 1, 0, .ireturn)]
abbrev mm_m_Mo_errorAt : mm_M := (⟨"QualifierGateModel", "errorAt", "(II)I"⟩, prog_13_method_41_code, 6, some .int, (9, 2, false), (1290, 1289, 61, 86), mm_c_Mo_errorAt)
def mm_c_Mo_wrongCall : List mm_I := [(0, 2, 0, .bipush (6)), (2, 1, 0, .aload_n 0), (3, 3, 193, .getfield 611), (6, 1, 0, .iadd), (7, 1, 0, .aload_n 0), (8, 3, 39, .getfield 587), (11, 1, 0, .iload_n 1), (12, 1, 0, .iaload), (13, 1, 0, .isub), (14, 1, 0, .istore_n 2), (15, 2, 0, .bipush (9)), (17, 1, 0, .istore_n 3), (18, 1, 0, .iconst (0)), (19, 2, 0, .istore 4), (21, 2, 0, .iload 4), (23, 1, 0, .aload_n 0), (24, 3, 39, .getfield 587), (27, 1, 0, .iload_n 1), (28, 1, 0, .iaload), (29, 3, 0, .if_icmp .ge (59)), (32, 1, 0, .aload_n 0), (33, 1, 0, .iload_n 2), (34, 2, 0, .iload 4), (36, 1, 0, .iadd), (37, 1, 0, .aload_n 0), (38, 3, 51, .getfield 591), (41, 1, 0, .iconst (4)), (42, 1, 0, .iload_n 1), (43, 1, 0, .imul), (44, 2, 0, .iload 4), (46, 1, 0, .iadd), (47, 1, 0, .iaload), (48, 1, 0, .aload_n 0), (49, 3, 60, .getfield 594), (52, 1, 0, .iconst (4)), (53, 1, 0, .iload_n 1), (54, 1, 0, .imul), (55, 2, 0, .iload 4), (57, 1, 0, .iadd), (58, 1, 0, .baload), (59, 1, 0, .aload_n 0), (60, 3, 54, .getfield 592), (63, 1, 0, .iconst (4)), (64, 1, 0, .iload_n 1), (65, 1, 0, .imul), (66, 2, 0, .iload 4), (68, 1, 0, .iadd), (69, 1, 0, .iaload), (70, 3, 257, .invokevirtual 160), (73, 2, 0, .istore 5), (75, 1, 0, .iload_n 3), (76, 2, 0, .iload 5), (78, 3, 261, .invokestatic 163), (81, 1, 0, .istore_n 3), (82, 3, 0, .iinc 4 (1)), (85, 3, 0, .goto (-64)), (88, 1, 0, .aload_n 0), (89, 3, 57, .getfield 593), (92, 1, 0, .iload_n 1), (93, 1, 0, .baload), (94, 3, 0, .ifCond .eq (5)), (97, 1, 0, .iload_n 3), (98, 1, 0, .ireturn), (99, 1, 0, .aload_n 0), (100, 1, 0, .iload_n 2), (101, 1, 0, .iconst (1)), (102, 1, 0, .isub), (103, 1, 0, .aload_n 0), (104, 3, 33, .getfield 585), (107, 1, 0, .iload_n 1), (108, 1, 0, .iaload), (109, 1, 0, .iconst (0)), (110, 1, 0, .iconst (1)), (111, 1, 0, .iconst (1)), (112, 3, 267, .invokevirtual 162), (115, 2, 0, .istore 4), (117, 1, 0, .iload_n 3), (118, 2, 0, .iload 4), (120, 3, 261, .invokestatic 163), (123, 1, 0, .ireturn)]
abbrev mm_m_Mo_wrongCall : mm_M := (⟨"QualifierGateModel", "wrongCall", "(I)I"⟩, prog_13_method_42_code, 6, some .int, (9, 1, false), (1313, 1312, 66, 86), mm_c_Mo_wrongCall)
def mm_c_Mo_lacks : List mm_I := [(0, 1, 0, .iconst (0)), (1, 1, 0, .istore_n 2), (2, 1, 0, .iload_n 2), (3, 1, 0, .aload_n 0), (4, 3, 169, .getfield 577), (7, 3, 0, .if_icmp .ge (54)), (10, 1, 0, .aload_n 0), (11, 1, 0, .iload_n 1), (12, 1, 0, .aload_n 0), (13, 3, 17, .getfield 580), (16, 1, 0, .iload_n 2), (17, 1, 0, .iaload), (18, 3, 221, .invokevirtual 129), (21, 3, 0, .ifCond .eq (34)), (24, 1, 0, .aload_n 0), (25, 3, 20, .getfield 581), (28, 1, 0, .iload_n 2), (29, 1, 0, .iaload), (30, 3, 0, .ifCond .lt (25)), (33, 1, 0, .aload_n 0), (34, 3, 30, .getfield 584), (37, 1, 0, .iload_n 2), (38, 1, 0, .baload), (39, 3, 0, .ifCond .ne (16)), (42, 1, 0, .aload_n 0), (43, 3, 206, .getfield 613), (46, 1, 0, .iload_n 2), (47, 1, 0, .ishr), (48, 1, 0, .iconst (1)), (49, 1, 0, .iand), (50, 3, 0, .ifCond .ne (5)), (53, 1, 0, .iconst (1)), (54, 1, 0, .ireturn), (55, 3, 0, .iinc 2 (1)), (58, 3, 0, .goto (-56)), (61, 1, 0, .iconst (0)), (62, 1, 0, .ireturn)]
abbrev mm_m_Mo_lacks : mm_M := (⟨"QualifierGateModel", "lacks", "(I)Z"⟩, prog_13_method_43_code, 3, some .boolean, (9, 1, false), (1305, 1304, 64, 86), mm_c_Mo_lacks)
def mm_c_Mo_isOutside : List mm_I := [(0, 1, 0, .iconst (4)), (1, 1, 0, .iload_n 1), (2, 1, 0, .imul), (3, 1, 0, .istore_n 2), (4, 1, 0, .iconst (4)), (5, 1, 0, .iload_n 1), (6, 1, 0, .imul), (7, 1, 0, .iconst (3)), (8, 1, 0, .iadd), (9, 1, 0, .istore_n 3), (10, 1, 0, .aload_n 0), (11, 3, 42, .getfield 588), (14, 1, 0, .iload_n 1), (15, 1, 0, .iaload), (16, 3, 0, .ifCond .ne (19)), (19, 1, 0, .aload_n 0), (20, 3, 51, .getfield 591), (23, 1, 0, .iload_n 3), (24, 1, 0, .iaload), (25, 1, 0, .iconst (-1)), (26, 3, 0, .if_icmp .eq (7)), (29, 1, 0, .iconst (1)), (30, 3, 0, .goto (4)), (33, 1, 0, .iconst (0)), (34, 1, 0, .ireturn), (35, 1, 0, .aload_n 0), (36, 3, 39, .getfield 587), (39, 1, 0, .iload_n 1), (40, 1, 0, .iaload), (41, 3, 0, .ifCond .ne (5)), (44, 1, 0, .iconst (1)), (45, 1, 0, .ireturn), (46, 1, 0, .aload_n 0), (47, 3, 42, .getfield 588), (50, 1, 0, .iload_n 1), (51, 1, 0, .iaload), (52, 1, 0, .iconst (1)), (53, 3, 0, .if_icmp .ne (30)), (56, 1, 0, .aload_n 0), (57, 3, 51, .getfield 591), (60, 1, 0, .iload_n 2), (61, 1, 0, .iaload), (62, 1, 0, .iconst (-1)), (63, 3, 0, .if_icmp .ne (14)), (66, 1, 0, .aload_n 0), (67, 3, 51, .getfield 591), (70, 1, 0, .iload_n 3), (71, 1, 0, .iaload), (72, 2, 0, .bipush (-2)), (74, 3, 0, .if_icmp .eq (7)), (77, 1, 0, .iconst (1)), (78, 3, 0, .goto (4)), (81, 1, 0, .iconst (0)), (82, 1, 0, .ireturn), (83, 1, 0, .aload_n 0), (84, 3, 51, .getfield 591), (87, 1, 0, .iload_n 2), (88, 1, 0, .iaload), (89, 1, 0, .iconst (-1)), (90, 3, 0, .if_icmp .eq (12)), (93, 1, 0, .aload_n 0), (94, 3, 51, .getfield 591), (97, 1, 0, .iload_n 3), (98, 1, 0, .iaload), (99, 3, 0, .ifCond .ge (24)), (102, 1, 0, .aload_n 0), (103, 3, 51, .getfield 591), (106, 1, 0, .iload_n 2), (107, 1, 0, .iaload), (108, 1, 0, .aload_n 0), (109, 3, 51, .getfield 591), (112, 1, 0, .iload_n 3), (113, 1, 0, .iaload), (114, 3, 0, .if_icmp .eq (7)), (117, 1, 0, .iconst (1)), (118, 3, 0, .goto (4)), (121, 1, 0, .iconst (0)), (122, 1, 0, .ireturn), (123, 1, 0, .aload_n 0), (124, 1, 0, .aload_n 0), (125, 3, 51, .getfield 591), (128, 1, 0, .iload_n 2), (129, 1, 0, .iaload), (130, 1, 0, .aload_n 0), (131, 3, 51, .getfield 591), (134, 1, 0, .iload_n 3), (135, 1, 0, .iaload), (136, 3, 221, .invokevirtual 129), (139, 3, 0, .ifCond .eq (21)), (142, 1, 0, .aload_n 0), (143, 3, 60, .getfield 594), (146, 1, 0, .iload_n 2), (147, 1, 0, .baload), (148, 3, 0, .ifCond .eq (16)), (151, 1, 0, .aload_n 0), (152, 3, 60, .getfield 594), (155, 1, 0, .iload_n 3), (156, 1, 0, .baload), (157, 3, 0, .ifCond .ne (7)), (160, 1, 0, .iconst (1)), (161, 3, 0, .goto (4)), (164, 1, 0, .iconst (0)), (165, 1, 0, .ireturn)]
abbrev mm_m_Mo_isOutside : mm_M := (⟨"QualifierGateModel", "isOutside", "(I)Z"⟩, prog_13_method_44_code, 4, some .boolean, (9, 1, false), (1286, 1285, 60, 86), mm_c_Mo_isOutside)
def mm_c_Mo_inspect : List mm_I := [(0, 1, 0, .aload_n 0), (1, 1, 0, .iload_n 1), (2, 3, 275, .invokevirtual 157), (5, 1, 0, .aload_n 0), (6, 2, 0, .bipush (32)), (8, 1, 0, .iload_n 1), (9, 1, 0, .imul), (10, 2, 0, .bipush (31)), (12, 1, 0, .iadd), (13, 3, 105, .putfield 609), (16, 1, 0, .aload_n 0), (17, 3, 42, .getfield 588), (20, 1, 0, .iload_n 1), (21, 1, 0, .iaload), (22, 3, 0, .ifCond .lt (18)), (25, 1, 0, .aload_n 0), (26, 1, 0, .iload_n 1), (27, 3, 278, .invokevirtual 167), (30, 3, 0, .ifCond .eq (8)), (33, 2, 0, .bipush (9)), (35, 3, 0, .goto (4)), (38, 1, 0, .iconst (0)), (39, 1, 0, .ireturn), (40, 1, 0, .aload_n 0), (41, 3, 45, .getfield 589), (44, 1, 0, .iload_n 1), (45, 1, 0, .iaload), (46, 3, 0, .ifCond .ne (6)), (49, 2, 0, .bipush (8)), (51, 1, 0, .ireturn), (52, 1, 0, .iconst (0)), (53, 1, 0, .istore_n 2), (54, 1, 0, .iload_n 2), (55, 1, 0, .aload_n 0), (56, 3, 45, .getfield 589), (59, 1, 0, .iload_n 1), (60, 1, 0, .iaload), (61, 3, 0, .if_icmp .ge (50)), (64, 1, 0, .aload_n 0), (65, 3, 78, .getfield 600), (68, 1, 0, .iload_n 2), (69, 1, 0, .iaload), (70, 1, 0, .iconst (-1)), (71, 3, 0, .if_icmp .ne (6)), (74, 3, 0, .goto (31)), (77, 1, 0, .aload_n 0), (78, 1, 0, .iload_n 1), (79, 1, 0, .iload_n 2), (80, 3, 281, .invokevirtual 164), (83, 1, 0, .istore_n 3), (84, 1, 0, .iload_n 3), (85, 2, 0, .bipush (9)), (87, 3, 0, .if_icmp .ne (6)), (90, 3, 0, .goto (15)), (93, 1, 0, .aload_n 0), (94, 2, 0, .bipush (32)), (96, 1, 0, .iload_n 1), (97, 1, 0, .imul), (98, 1, 0, .iload_n 2), (99, 1, 0, .iadd), (100, 3, 105, .putfield 609), (103, 1, 0, .iload_n 3), (104, 1, 0, .ireturn), (105, 3, 0, .iinc 2 (1)), (108, 3, 0, .goto (-54)), (111, 1, 0, .iconst (0)), (112, 1, 0, .ireturn)]
abbrev mm_m_Mo_inspect : mm_M := (⟨"QualifierGateModel", "inspect", "(I)I"⟩, prog_13_method_45_code, 4, some .int, (9, 1, false), (1210, 1209, 41, 86), mm_c_Mo_inspect)
def mm_c_Mo_check : List mm_I := [(0, 1, 0, .aload_n 0), (1, 1, 0, .iload_n 1), (2, 3, 176, .invokevirtual 127), (5, 3, 0, .ifCond .ne (5)), (8, 1, 0, .iconst (-1)), (9, 1, 0, .ireturn), (10, 1, 0, .aload_n 0), (11, 1, 0, .iload_n 1), (12, 3, 284, .invokevirtual 168), (15, 1, 0, .istore_n 2), (16, 1, 0, .iload_n 2), (17, 3, 0, .ifCond .ne (8)), (20, 1, 0, .aload_n 0), (21, 1, 0, .iconst (-1)), (22, 3, 105, .putfield 609), (25, 1, 0, .iload_n 2), (26, 1, 0, .ireturn)]
abbrev mm_m_Mo_check : mm_M := (⟨"QualifierGateModel", "check", "(I)I"⟩, prog_13_method_46_code, 3, some .int, (9, 1, false), (1206, 1204, 1206, 86), mm_c_Mo_check)
def mm_c_Mo_parts : List mm_I := [(0, 1, 0, .aload_n 0), (1, 3, 51, .getfield 591), (4, 1, 0, .iload_n 1), (5, 1, 0, .iaload), (6, 3, 0, .ifCond .lt (12)), (9, 1, 0, .aload_n 0), (10, 3, 51, .getfield 591), (13, 1, 0, .iload_n 2), (14, 1, 0, .iaload), (15, 3, 0, .ifCond .ge (54)), (18, 1, 0, .aload_n 0), (19, 3, 51, .getfield 591), (22, 1, 0, .iload_n 1), (23, 1, 0, .iaload), (24, 1, 0, .aload_n 0), (25, 3, 51, .getfield 591), (28, 1, 0, .iload_n 2), (29, 1, 0, .iaload), (30, 3, 0, .if_icmp .eq (5)), (33, 1, 0, .iconst (1)), (34, 1, 0, .ireturn), (35, 1, 0, .aload_n 0), (36, 3, 51, .getfield 591), (39, 1, 0, .iload_n 1), (40, 1, 0, .iaload), (41, 1, 0, .iconst (-1)), (42, 3, 0, .if_icmp .ne (25)), (45, 1, 0, .aload_n 0), (46, 3, 54, .getfield 592), (49, 1, 0, .iload_n 1), (50, 1, 0, .iaload), (51, 1, 0, .aload_n 0), (52, 3, 54, .getfield 592), (55, 1, 0, .iload_n 2), (56, 1, 0, .iaload), (57, 1, 0, .iconst (-1)), (58, 1, 0, .ixor), (59, 1, 0, .iand), (60, 3, 0, .ifCond .eq (7)), (63, 1, 0, .iconst (1)), (64, 3, 0, .goto (4)), (67, 1, 0, .iconst (0)), (68, 1, 0, .ireturn), (69, 1, 0, .aload_n 0), (70, 1, 0, .aload_n 0), (71, 3, 51, .getfield 591), (74, 1, 0, .iload_n 1), (75, 1, 0, .iaload), (76, 1, 0, .aload_n 0), (77, 3, 51, .getfield 591), (80, 1, 0, .iload_n 2), (81, 1, 0, .iaload), (82, 3, 221, .invokevirtual 129), (85, 3, 0, .ifCond .eq (39)), (88, 1, 0, .aload_n 0), (89, 3, 60, .getfield 594), (92, 1, 0, .iload_n 1), (93, 1, 0, .baload), (94, 3, 0, .ifCond .eq (12)), (97, 1, 0, .aload_n 0), (98, 3, 60, .getfield 594), (101, 1, 0, .iload_n 2), (102, 1, 0, .baload), (103, 3, 0, .ifCond .eq (21)), (106, 1, 0, .aload_n 0), (107, 3, 54, .getfield 592), (110, 1, 0, .iload_n 1), (111, 1, 0, .iaload), (112, 1, 0, .aload_n 0), (113, 3, 54, .getfield 592), (116, 1, 0, .iload_n 2), (117, 1, 0, .iaload), (118, 1, 0, .iconst (-1)), (119, 1, 0, .ixor), (120, 1, 0, .iand), (121, 3, 0, .ifCond .eq (7)), (124, 1, 0, .iconst (1)), (125, 3, 0, .goto (4)), (128, 1, 0, .iconst (0)), (129, 1, 0, .ireturn)]
abbrev mm_m_Mo_parts : mm_M := (⟨"QualifierGateModel", "parts", "(II)Z"⟩, prog_13_method_47_code, 3, some .boolean, (9, 2, false), (1329, 1328, 69, 86), mm_c_Mo_parts)
def mm_c_Mo_varies : List mm_I := [(0, 1, 0, .aload_n 0), (1, 3, 13, .getfield 579), (4, 1, 0, .aload_n 0), (5, 3, 33, .getfield 585), (8, 1, 0, .iload_n 1), (9, 1, 0, .iaload), (10, 1, 0, .iaload), (11, 3, 0, .ifCond .ge (7)), (14, 1, 0, .iconst (-1)), (15, 3, 0, .goto (24)), (18, 1, 0, .aload_n 0), (19, 1, 0, .aload_n 0), (20, 3, 13, .getfield 579), (23, 1, 0, .aload_n 0), (24, 3, 33, .getfield 585), (27, 1, 0, .iload_n 1), (28, 1, 0, .iaload), (29, 1, 0, .iaload), (30, 1, 0, .aload_n 0), (31, 3, 36, .getfield 586), (34, 1, 0, .iload_n 1), (35, 1, 0, .iaload), (36, 3, 287, .invokevirtual 134), (39, 1, 0, .istore_n 2), (40, 1, 0, .iload_n 2), (41, 3, 0, .ifCond .ge (5)), (44, 1, 0, .iconst (0)), (45, 1, 0, .ireturn), (46, 1, 0, .aload_n 0), (47, 3, 57, .getfield 593), (50, 1, 0, .iload_n 1), (51, 1, 0, .baload), (52, 3, 0, .ifCond .ne (27)), (55, 1, 0, .aload_n 0), (56, 3, 57, .getfield 593), (59, 1, 0, .iload_n 2), (60, 1, 0, .baload), (61, 3, 0, .ifCond .ne (18)), (64, 1, 0, .aload_n 0), (65, 3, 39, .getfield 587), (68, 1, 0, .iload_n 1), (69, 1, 0, .iaload), (70, 1, 0, .aload_n 0), (71, 3, 39, .getfield 587), (74, 1, 0, .iload_n 2), (75, 1, 0, .iaload), (76, 3, 0, .if_icmp .eq (5)), (79, 1, 0, .iconst (1)), (80, 1, 0, .ireturn), (81, 1, 0, .iconst (0)), (82, 1, 0, .istore_n 3), (83, 1, 0, .iload_n 3), (84, 1, 0, .aload_n 0), (85, 3, 39, .getfield 587), (88, 1, 0, .iload_n 1), (89, 1, 0, .iaload), (90, 3, 0, .if_icmp .ge (32)), (93, 1, 0, .aload_n 0), (94, 1, 0, .iconst (4)), (95, 1, 0, .iload_n 2), (96, 1, 0, .imul), (97, 1, 0, .iload_n 3), (98, 1, 0, .iadd), (99, 1, 0, .iconst (4)), (100, 1, 0, .iload_n 1), (101, 1, 0, .imul), (102, 1, 0, .iload_n 3), (103, 1, 0, .iadd), (104, 3, 290, .invokevirtual 170), (107, 2, 0, .istore 4), (109, 2, 0, .iload 4), (111, 3, 0, .ifCond .eq (5)), (114, 1, 0, .iconst (1)), (115, 1, 0, .ireturn), (116, 3, 0, .iinc 3 (1)), (119, 3, 0, .goto (-36)), (122, 1, 0, .aload_n 0), (123, 1, 0, .iconst (4)), (124, 1, 0, .iload_n 1), (125, 1, 0, .imul), (126, 1, 0, .iconst (3)), (127, 1, 0, .iadd), (128, 1, 0, .iconst (4)), (129, 1, 0, .iload_n 2), (130, 1, 0, .imul), (131, 1, 0, .iconst (3)), (132, 1, 0, .iadd), (133, 3, 290, .invokevirtual 170), (136, 1, 0, .ireturn)]
abbrev mm_m_Mo_varies : mm_M := (⟨"QualifierGateModel", "varies", "(I)Z"⟩, prog_13_method_48_code, 5, some .boolean, (9, 1, false), (1321, 1320, 67, 86), mm_c_Mo_varies)
def mm_c_Mo_load : List mm_I := [(0, 1, 0, .aload_n 0), (1, 1, 0, .iload_n 1), (2, 3, 157, .invokevirtual 126), (5, 3, 0, .ifCond .eq (12)), (8, 1, 0, .aload_n 0), (9, 3, 26, .getfield 583), (12, 1, 0, .iload_n 1), (13, 1, 0, .baload), (14, 3, 0, .ifCond .eq (5)), (17, 1, 0, .iconst (-1)), (18, 1, 0, .ireturn), (19, 1, 0, .iload_n 1), (20, 3, 0, .ifCond .le (20)), (23, 1, 0, .aload_n 0), (24, 3, 26, .getfield 583), (27, 1, 0, .aload_n 0), (28, 3, 13, .getfield 579), (31, 1, 0, .iload_n 1), (32, 1, 0, .iaload), (33, 1, 0, .baload), (34, 3, 0, .ifCond .ne (6)), (37, 2, 0, .bipush (-4)), (39, 1, 0, .ireturn), (40, 1, 0, .iconst (0)), (41, 1, 0, .istore_n 2), (42, 1, 0, .iload_n 2), (43, 1, 0, .aload_n 0), (44, 3, 154, .getfield 578), (47, 3, 0, .if_icmp .ge (61)), (50, 1, 0, .aload_n 0), (51, 3, 33, .getfield 585), (54, 1, 0, .iload_n 2), (55, 1, 0, .iaload), (56, 1, 0, .iload_n 1), (57, 3, 0, .if_icmp .eq (6)), (60, 3, 0, .goto (42)), (63, 1, 0, .aload_n 0), (64, 1, 0, .iload_n 2), (65, 3, 293, .invokevirtual 171), (68, 1, 0, .istore_n 3), (69, 1, 0, .iload_n 3), (70, 3, 0, .ifCond .eq (17)), (73, 1, 0, .aload_n 0), (74, 2, 0, .bipush (32)), (76, 1, 0, .iload_n 2), (77, 1, 0, .imul), (78, 2, 0, .bipush (31)), (80, 1, 0, .iadd), (81, 3, 105, .putfield 609), (84, 2, 0, .bipush (10)), (86, 1, 0, .ireturn), (87, 1, 0, .aload_n 0), (88, 1, 0, .iload_n 2), (89, 3, 284, .invokevirtual 168), (92, 2, 0, .istore 4), (94, 2, 0, .iload 4), (96, 3, 0, .ifCond .le (6)), (99, 2, 0, .iload 4), (101, 1, 0, .ireturn), (102, 3, 0, .iinc 2 (1)), (105, 3, 0, .goto (-63)), (108, 1, 0, .aload_n 0), (109, 3, 26, .getfield 583), (112, 1, 0, .iload_n 1), (113, 1, 0, .iconst (1)), (114, 1, 0, .bastore), (115, 1, 0, .aload_n 0), (116, 1, 0, .iconst (-1)), (117, 3, 105, .putfield 609), (120, 1, 0, .iconst (0)), (121, 1, 0, .ireturn)]
abbrev mm_m_Mo_load : mm_M := (⟨"QualifierGateModel", "load", "(I)I"⟩, prog_13_method_49_code, 5, some .int, (9, 1, false), (1317, 1315, 1317, 86), mm_c_Mo_load)
def mm_c_Mo_isLoaded : List mm_I := [(0, 1, 0, .aload_n 0), (1, 1, 0, .iload_n 1), (2, 3, 157, .invokevirtual 126), (5, 3, 0, .ifCond .eq (16)), (8, 1, 0, .aload_n 0), (9, 3, 26, .getfield 583), (12, 1, 0, .iload_n 1), (13, 1, 0, .baload), (14, 3, 0, .ifCond .eq (7)), (17, 1, 0, .iconst (1)), (18, 3, 0, .goto (4)), (21, 1, 0, .iconst (0)), (22, 1, 0, .ireturn)]
abbrev mm_m_Mo_isLoaded : mm_M := (⟨"QualifierGateModel", "isLoaded", "(I)Z"⟩, prog_13_method_50_code, 2, some .boolean, (9, 1, false), (1333, 1331, 1333, 86), mm_c_Mo_isLoaded)
def mm_c_Mo_place : List mm_I := [(0, 1, 0, .aload_n 0), (1, 3, 105, .getfield 609), (4, 1, 0, .ireturn)]
abbrev mm_m_Mo_place : mm_M := (⟨"QualifierGateModel", "place", "()I"⟩, prog_13_method_51_code, 1, some .int, (9, 0, false), (1337, 1335, 1337, 86), mm_c_Mo_place)
def mm_c_Mo_frame : List mm_I := [(0, 1, 0, .iload_n 1), (1, 1, 0, .iconst (0)), (2, 2, 0, .bipush (19)), (4, 3, 150, .invokestatic 125), (7, 3, 0, .ifCond .eq (12)), (10, 1, 0, .aload_n 0), (11, 3, 78, .getfield 600), (14, 1, 0, .iload_n 1), (15, 1, 0, .iaload), (16, 3, 0, .goto (4)), (19, 1, 0, .iconst (-1)), (20, 2, 0, .istore 4), (22, 1, 0, .aload_n 0), (23, 3, 102, .getfield 608), (26, 3, 0, .ifCond .ge (6)), (29, 1, 0, .iconst (-1)), (30, 2, 0, .istore 4), (32, 1, 0, .iload_n 2), (33, 1, 0, .iconst (-1)), (34, 3, 0, .if_icmp .ne (10)), (37, 1, 0, .iload_n 3), (38, 3, 0, .ifCond .ne (6)), (41, 2, 0, .iload 4), (43, 1, 0, .ireturn), (44, 2, 0, .iload 4), (46, 3, 0, .ifCond .lt (15)), (49, 1, 0, .iload_n 2), (50, 1, 0, .iconst (-1)), (51, 1, 0, .iconst (5)), (52, 2, 0, .iload 4), (54, 1, 0, .iadd), (55, 3, 150, .invokestatic 125), (58, 3, 0, .ifCond .ne (5)), (61, 1, 0, .iconst (-1)), (62, 1, 0, .ireturn), (63, 2, 0, .bipush (10)), (65, 1, 0, .iload_n 1), (66, 1, 0, .imul), (67, 1, 0, .iload_n 2), (68, 1, 0, .iadd), (69, 2, 0, .istore 5), (71, 1, 0, .iload_n 2), (72, 1, 0, .iconst (-1)), (73, 3, 0, .if_icmp .ne (33)), (76, 1, 0, .iload_n 3), (77, 1, 0, .iconst (1)), (78, 3, 0, .if_icmp .ne (12)), (81, 1, 0, .aload_n 0), (82, 3, 81, .getfield 601), (85, 1, 0, .iload_n 1), (86, 1, 0, .iaload), (87, 3, 0, .goto (18)), (90, 1, 0, .iload_n 3), (91, 1, 0, .iconst (2)), (92, 3, 0, .if_icmp .ne (12)), (95, 1, 0, .aload_n 0), (96, 3, 84, .getfield 602), (99, 1, 0, .iload_n 1), (100, 1, 0, .iaload), (101, 3, 0, .goto (4)), (104, 1, 0, .iconst (-1)), (105, 1, 0, .ireturn), (106, 1, 0, .iload_n 3), (107, 33, 0, .tableswitch (81) (0) (4) #[33, 41, 49, 65, 73]), (140, 1, 0, .aload_n 0), (141, 3, 87, .getfield 603), (144, 2, 0, .iload 5), (146, 1, 0, .iaload), (147, 1, 0, .ireturn), (148, 1, 0, .aload_n 0), (149, 3, 90, .getfield 604), (152, 2, 0, .iload 5), (154, 1, 0, .iaload), (155, 1, 0, .ireturn), (156, 1, 0, .aload_n 0), (157, 3, 99, .getfield 607), (160, 2, 0, .iload 5), (162, 1, 0, .baload), (163, 3, 0, .ifCond .eq (7)), (166, 1, 0, .iconst (1)), (167, 3, 0, .goto (4)), (170, 1, 0, .iconst (0)), (171, 1, 0, .ireturn), (172, 1, 0, .aload_n 0), (173, 3, 93, .getfield 605), (176, 2, 0, .iload 5), (178, 1, 0, .iaload), (179, 1, 0, .ireturn), (180, 1, 0, .aload_n 0), (181, 3, 96, .getfield 606), (184, 2, 0, .iload 5), (186, 1, 0, .iaload), (187, 1, 0, .ireturn), (188, 1, 0, .iconst (-1)), (189, 1, 0, .ireturn)]
abbrev mm_m_Mo_frame : mm_M := (⟨"QualifierGateModel", "frame", "(III)I"⟩, prog_13_method_52_code, 6, some .int, (9, 3, false), (1341, 1339, 1341, 86), mm_c_Mo_frame)
def mm_c_Mo_input : List mm_I := [(0, 1, 0, .aload_n 0), (1, 3, 296, .getfield 628), (4, 2, 0, .bipush (8)), (6, 3, 0, .if_icmp .ne (6)), (9, 2, 0, .bipush (-2)), (11, 1, 0, .ireturn), (12, 1, 0, .aload_n 0), (13, 3, 123, .getfield 619), (16, 1, 0, .aload_n 0), (17, 3, 296, .getfield 628), (20, 1, 0, .iload_n 1), (21, 1, 0, .iastore), (22, 1, 0, .aload_n 0), (23, 1, 0, .dup), (24, 3, 296, .getfield 628), (27, 1, 0, .iconst (1)), (28, 1, 0, .iadd), (29, 3, 296, .putfield 628), (32, 1, 0, .aload_n 0), (33, 3, 296, .getfield 628), (36, 1, 0, .ireturn)]
abbrev mm_m_Mo_input : mm_M := (⟨"QualifierGateModel", "input", "(I)I"⟩, prog_13_method_53_code, 2, some .int, (9, 1, false), (1345, 1343, 1345, 86), mm_c_Mo_input)
def mm_c_Mo_run : List mm_I := [(0, 1, 0, .aload_n 0), (1, 1, 0, .iload_n 1), (2, 3, 176, .invokevirtual 127), (5, 3, 0, .ifCond .eq (45)), (8, 1, 0, .aload_n 0), (9, 3, 57, .getfield 593), (12, 1, 0, .iload_n 1), (13, 1, 0, .baload), (14, 3, 0, .ifCond .eq (36)), (17, 1, 0, .aload_n 0), (18, 3, 42, .getfield 588), (21, 1, 0, .iload_n 1), (22, 1, 0, .iaload), (23, 3, 0, .ifCond .ge (27)), (26, 1, 0, .aload_n 0), (27, 3, 26, .getfield 583), (30, 1, 0, .aload_n 0), (31, 3, 33, .getfield 585), (34, 1, 0, .iload_n 1), (35, 1, 0, .iaload), (36, 1, 0, .baload), (37, 3, 0, .ifCond .eq (13)), (40, 1, 0, .aload_n 0), (41, 3, 39, .getfield 587), (44, 1, 0, .iload_n 1), (45, 1, 0, .iaload), (46, 1, 0, .iconst (2)), (47, 3, 0, .if_icmp .le (5)), (50, 1, 0, .iconst (-1)), (51, 1, 0, .ireturn), (52, 1, 0, .iconst (4)), (53, 1, 0, .iload_n 1), (54, 1, 0, .imul), (55, 2, 0, .istore 4), (57, 2, 0, .iload 4), (59, 1, 0, .iconst (4)), (60, 1, 0, .iload_n 1), (61, 1, 0, .imul), (62, 1, 0, .aload_n 0), (63, 3, 39, .getfield 587), (66, 1, 0, .iload_n 1), (67, 1, 0, .iaload), (68, 1, 0, .iadd), (69, 3, 0, .if_icmp .ge (22)), (72, 1, 0, .aload_n 0), (73, 3, 51, .getfield 591), (76, 2, 0, .iload 4), (78, 1, 0, .iaload), (79, 1, 0, .iconst (-1)), (80, 3, 0, .if_icmp .eq (5)), (83, 1, 0, .iconst (-1)), (84, 1, 0, .ireturn), (85, 3, 0, .iinc 4 (1)), (88, 3, 0, .goto (-31)), (91, 1, 0, .aload_n 0), (92, 1, 0, .iconst (0)), (93, 3, 299, .putfield 629), (96, 1, 0, .aload_n 0), (97, 1, 0, .iconst (0)), (98, 3, 302, .putfield 630), (101, 1, 0, .aload_n 0), (102, 1, 0, .iconst (0)), (103, 3, 305, .putfield 631), (106, 1, 0, .aload_n 0), (107, 1, 0, .iconst (0)), (108, 3, 308, .putfield 632), (111, 1, 0, .aload_n 0), (112, 1, 0, .iconst (0)), (113, 3, 311, .putfield 633), (116, 1, 0, .aload_n 0), (117, 1, 0, .iconst (0)), (118, 3, 314, .putfield 634), (121, 1, 0, .aload_n 0), (122, 1, 0, .iconst (-1)), (123, 3, 317, .putfield 635), (126, 1, 0, .aload_n 0), (127, 1, 0, .iconst (0)), (128, 3, 320, .putfield 636), (131, 1, 0, .aload_n 0), (132, 1, 0, .iload_n 1), (133, 3, 323, .invokevirtual 178), (136, 1, 0, .aload_n 0), (137, 3, 39, .getfield 587), (140, 1, 0, .iload_n 1), (141, 1, 0, .iaload), (142, 3, 0, .ifCond .le (10)), (145, 1, 0, .aload_n 0), (146, 3, 132, .getfield 622), (149, 1, 0, .iconst (0)), (150, 1, 0, .iload_n 2), (151, 1, 0, .iastore), (152, 1, 0, .aload_n 0), (153, 3, 39, .getfield 587), (156, 1, 0, .iload_n 1), (157, 1, 0, .iaload), (158, 1, 0, .iconst (1)), (159, 3, 0, .if_icmp .le (10)), (162, 1, 0, .aload_n 0), (163, 3, 132, .getfield 622), (166, 1, 0, .iconst (1)), (167, 1, 0, .iload_n 3), (168, 1, 0, .iastore), (169, 1, 0, .aload_n 0), (170, 3, 317, .getfield 635), (173, 3, 0, .ifCond .ge (38)), (176, 1, 0, .aload_n 0), (177, 3, 308, .getfield 632), (180, 3, 0, .sipush (400)), (183, 3, 0, .if_icmp .ne (11)), (186, 1, 0, .aload_n 0), (187, 1, 0, .iconst (4)), (188, 3, 317, .putfield 635), (191, 3, 0, .goto (-22)), (194, 1, 0, .aload_n 0), (195, 1, 0, .dup), (196, 3, 308, .getfield 632), (199, 1, 0, .iconst (1)), (200, 1, 0, .iadd), (201, 3, 308, .putfield 632), (204, 1, 0, .aload_n 0), (205, 3, 326, .invokevirtual 181), (208, 3, 0, .goto (-39)), (211, 1, 0, .aload_n 0), (212, 3, 317, .getfield 635), (215, 1, 0, .ireturn)]
abbrev mm_m_Mo_run : mm_M := (⟨"QualifierGateModel", "run", "(III)I"⟩, prog_13_method_54_code, 5, some .int, (9, 3, false), (1349, 1347, 1349, 86), mm_c_Mo_run)
def mm_c_Mo_enter : List mm_I := [(0, 1, 0, .aload_n 0), (1, 3, 144, .getfield 626), (4, 1, 0, .aload_n 0), (5, 3, 311, .getfield 633), (8, 1, 0, .iload_n 1), (9, 1, 0, .iastore), (10, 1, 0, .aload_n 0), (11, 3, 141, .getfield 625), (14, 1, 0, .aload_n 0), (15, 3, 311, .getfield 633), (18, 1, 0, .iconst (0)), (19, 1, 0, .iastore), (20, 1, 0, .aload_n 0), (21, 3, 138, .getfield 624), (24, 1, 0, .aload_n 0), (25, 3, 311, .getfield 633), (28, 1, 0, .iconst (0)), (29, 1, 0, .iastore), (30, 1, 0, .iconst (0)), (31, 1, 0, .istore_n 2), (32, 1, 0, .iload_n 2), (33, 2, 0, .bipush (6)), (35, 3, 0, .if_icmp .ge (24)), (38, 1, 0, .aload_n 0), (39, 3, 132, .getfield 622), (42, 2, 0, .bipush (6)), (44, 1, 0, .aload_n 0), (45, 3, 311, .getfield 633), (48, 1, 0, .imul), (49, 1, 0, .iload_n 2), (50, 1, 0, .iadd), (51, 1, 0, .iconst (0)), (52, 1, 0, .iastore), (53, 3, 0, .iinc 2 (1)), (56, 3, 0, .goto (-24)), (59, 1, 0, .aload_n 0), (60, 1, 0, .dup), (61, 3, 311, .getfield 633), (64, 1, 0, .iconst (1)), (65, 1, 0, .iadd), (66, 3, 311, .putfield 633), (69, 1, 0, .aload_n 0), (70, 3, 311, .getfield 633), (73, 1, 0, .aload_n 0), (74, 3, 314, .getfield 634), (77, 3, 0, .if_icmp .le (11)), (80, 1, 0, .aload_n 0), (81, 1, 0, .aload_n 0), (82, 3, 311, .getfield 633), (85, 3, 314, .putfield 634), (88, 1, 0, .return_)]
abbrev mm_m_Mo_enter : mm_M := (⟨"QualifierGateModel", "enter", "(I)V"⟩, prog_13_method_55_code, 3, none, (9, 1, false), (1353, 1352, 70, 86), mm_c_Mo_enter)
def mm_c_Mo_pull : List mm_I := [(0, 1, 0, .aload_n 0), (1, 3, 138, .getfield 624), (4, 1, 0, .aload_n 0), (5, 3, 311, .getfield 633), (8, 1, 0, .iconst (1)), (9, 1, 0, .isub), (10, 1, 0, .dup2), (11, 1, 0, .iaload), (12, 1, 0, .iconst (1)), (13, 1, 0, .isub), (14, 1, 0, .iastore), (15, 1, 0, .aload_n 0), (16, 3, 135, .getfield 623), (19, 1, 0, .iconst (4)), (20, 1, 0, .aload_n 0), (21, 3, 311, .getfield 633), (24, 1, 0, .iconst (1)), (25, 1, 0, .isub), (26, 1, 0, .imul), (27, 1, 0, .aload_n 0), (28, 3, 138, .getfield 624), (31, 1, 0, .aload_n 0), (32, 3, 311, .getfield 633), (35, 1, 0, .iconst (1)), (36, 1, 0, .isub), (37, 1, 0, .iaload), (38, 1, 0, .iadd), (39, 1, 0, .iaload), (40, 1, 0, .ireturn)]
abbrev mm_m_Mo_pull : mm_M := (⟨"QualifierGateModel", "pull", "()I"⟩, prog_13_method_56_code, 1, some .int, (9, 0, false), (1361, 1360, 72, 86), mm_c_Mo_pull)
def mm_c_Mo_lay : List mm_I := [(0, 1, 0, .aload_n 0), (1, 3, 135, .getfield 623), (4, 1, 0, .iconst (4)), (5, 1, 0, .aload_n 0), (6, 3, 311, .getfield 633), (9, 1, 0, .iconst (1)), (10, 1, 0, .isub), (11, 1, 0, .imul), (12, 1, 0, .aload_n 0), (13, 3, 138, .getfield 624), (16, 1, 0, .aload_n 0), (17, 3, 311, .getfield 633), (20, 1, 0, .iconst (1)), (21, 1, 0, .isub), (22, 1, 0, .iaload), (23, 1, 0, .iadd), (24, 1, 0, .iload_n 1), (25, 1, 0, .iastore), (26, 1, 0, .aload_n 0), (27, 3, 138, .getfield 624), (30, 1, 0, .aload_n 0), (31, 3, 311, .getfield 633), (34, 1, 0, .iconst (1)), (35, 1, 0, .isub), (36, 1, 0, .dup2), (37, 1, 0, .iaload), (38, 1, 0, .iconst (1)), (39, 1, 0, .iadd), (40, 1, 0, .iastore), (41, 1, 0, .return_)]
abbrev mm_m_Mo_lay : mm_M := (⟨"QualifierGateModel", "lay", "(I)V"⟩, prog_13_method_57_code, 2, none, (9, 1, false), (1365, 1364, 73, 86), mm_c_Mo_lay)
def mm_c_Mo_step : List mm_I := [(0, 1, 0, .aload_n 0), (1, 3, 311, .getfield 633), (4, 1, 0, .iconst (1)), (5, 1, 0, .isub), (6, 1, 0, .istore_n 1), (7, 1, 0, .aload_n 0), (8, 3, 144, .getfield 626), (11, 1, 0, .iload_n 1), (12, 1, 0, .iaload), (13, 1, 0, .istore_n 2), (14, 1, 0, .aload_n 0), (15, 3, 141, .getfield 625), (18, 1, 0, .iload_n 1), (19, 1, 0, .iaload), (20, 1, 0, .istore_n 3), (21, 1, 0, .aload_n 0), (22, 3, 63, .getfield 595), (25, 2, 0, .bipush (20)), (27, 1, 0, .iload_n 2), (28, 1, 0, .imul), (29, 1, 0, .iload_n 3), (30, 1, 0, .iadd), (31, 1, 0, .iaload), (32, 2, 0, .istore 4), (34, 1, 0, .aload_n 0), (35, 3, 66, .getfield 596), (38, 2, 0, .bipush (20)), (40, 1, 0, .iload_n 2), (41, 1, 0, .imul), (42, 1, 0, .iload_n 3), (43, 1, 0, .iadd), (44, 1, 0, .iaload), (45, 2, 0, .istore 5), (47, 1, 0, .aload_n 0), (48, 3, 141, .getfield 625), (51, 1, 0, .iload_n 1), (52, 1, 0, .iload_n 3), (53, 1, 0, .iconst (1)), (54, 1, 0, .iadd), (55, 1, 0, .iastore), (56, 2, 0, .iload 4), (58, 1, 0, .iconst (3)), (59, 3, 0, .if_icmp .lt (10)), (62, 2, 0, .iload 4), (64, 2, 0, .bipush (6)), (66, 3, 0, .if_icmp .le (45)), (69, 2, 0, .iload 4), (71, 2, 0, .bipush (9)), (73, 3, 0, .if_icmp .lt (10)), (76, 2, 0, .iload 4), (78, 2, 0, .bipush (10)), (80, 3, 0, .if_icmp .le (31)), (83, 2, 0, .iload 4), (85, 2, 0, .bipush (12)), (87, 3, 0, .if_icmp .eq (24)), (90, 2, 0, .iload 4), (92, 2, 0, .bipush (14)), (94, 3, 0, .if_icmp .eq (17)), (97, 2, 0, .iload 4), (99, 2, 0, .bipush (15)), (101, 3, 0, .if_icmp .eq (10)), (104, 2, 0, .iload 4), (106, 2, 0, .bipush (17)), (108, 3, 0, .if_icmp .ne (10)), (111, 1, 0, .aload_n 0), (112, 3, 329, .invokevirtual 179), (115, 3, 0, .goto (4)), (118, 1, 0, .iconst (0)), (119, 2, 0, .istore 6), (121, 2, 0, .iload 4), (123, 85, 0, .tableswitch (362) (0) (17) #[85, 94, 102, 121, 138, 362, 153, 171, 362, 180, 216, 256, 265, 304, 315, 315, 331, 339]), (208, 1, 0, .aload_n 0), (209, 2, 0, .iload 5), (211, 3, 333, .invokevirtual 180), (214, 3, 0, .goto (271)), (217, 1, 0, .aload_n 0), (218, 1, 0, .iconst (0)), (219, 3, 333, .invokevirtual 180), (222, 3, 0, .goto (263)), (225, 1, 0, .aload_n 0), (226, 1, 0, .aload_n 0), (227, 3, 132, .getfield 622), (230, 2, 0, .bipush (6)), (232, 1, 0, .iload_n 1), (233, 1, 0, .imul), (234, 2, 0, .iload 5), (236, 1, 0, .iadd), (237, 1, 0, .iaload), (238, 3, 333, .invokevirtual 180), (241, 3, 0, .goto (244)), (244, 1, 0, .aload_n 0), (245, 3, 132, .getfield 622), (248, 2, 0, .bipush (6)), (250, 1, 0, .iload_n 1), (251, 1, 0, .imul), (252, 2, 0, .iload 5), (254, 1, 0, .iadd), (255, 2, 0, .iload 6), (257, 1, 0, .iastore), (258, 3, 0, .goto (227)), (261, 1, 0, .aload_n 0), (262, 2, 0, .iload 6), (264, 3, 333, .invokevirtual 180), (267, 1, 0, .aload_n 0), (268, 2, 0, .iload 6), (270, 3, 333, .invokevirtual 180), (273, 3, 0, .goto (212)), (276, 1, 0, .aload_n 0), (277, 3, 329, .invokevirtual 179), (280, 2, 0, .istore 7), (282, 1, 0, .aload_n 0), (283, 2, 0, .iload 7), (285, 2, 0, .iload 6), (287, 1, 0, .iadd), (288, 3, 333, .invokevirtual 180), (291, 3, 0, .goto (194)), (294, 1, 0, .aload_n 0), (295, 2, 0, .iload 5), (297, 3, 336, .invokevirtual 182), (300, 3, 0, .goto (185)), (303, 2, 0, .iload 6), (305, 3, 0, .ifCond .ne (12)), (308, 1, 0, .aload_n 0), (309, 2, 0, .bipush (6)), (311, 3, 317, .putfield 635), (314, 3, 0, .goto (171)), (317, 1, 0, .aload_n 0), (318, 1, 0, .aload_n 0), (319, 3, 129, .getfield 621), (322, 2, 0, .bipush (12)), (324, 2, 0, .iload 6), (326, 1, 0, .iconst (1)), (327, 1, 0, .isub), (328, 1, 0, .imul), (329, 2, 0, .iload 5), (331, 1, 0, .iadd), (332, 1, 0, .iaload), (333, 3, 333, .invokevirtual 180), (336, 3, 0, .goto (149)), (339, 1, 0, .aload_n 0), (340, 3, 329, .invokevirtual 179), (343, 2, 0, .istore 8), (345, 2, 0, .iload 8), (347, 3, 0, .ifCond .ne (12)), (350, 1, 0, .aload_n 0), (351, 2, 0, .bipush (6)), (353, 3, 317, .putfield 635), (356, 3, 0, .goto (129)), (359, 1, 0, .aload_n 0), (360, 3, 129, .getfield 621), (363, 2, 0, .bipush (12)), (365, 2, 0, .iload 8), (367, 1, 0, .iconst (1)), (368, 1, 0, .isub), (369, 1, 0, .imul), (370, 2, 0, .iload 5), (372, 1, 0, .iadd), (373, 2, 0, .iload 6), (375, 1, 0, .iastore), (376, 3, 0, .goto (109)), (379, 1, 0, .aload_n 0), (380, 2, 0, .iload 5), (382, 3, 339, .invokevirtual 183), (385, 3, 0, .goto (100)), (388, 2, 0, .iload 6), (390, 3, 0, .ifCond .eq (19)), (393, 1, 0, .aload_n 0), (394, 1, 0, .aload_n 0), (395, 3, 126, .getfield 620), (398, 2, 0, .iload 6), (400, 1, 0, .iaload), (401, 2, 0, .iload 5), (403, 3, 221, .invokevirtual 129), (406, 3, 0, .ifCond .eq (12)), (409, 1, 0, .aload_n 0), (410, 2, 0, .iload 6), (412, 3, 333, .invokevirtual 180), (415, 3, 0, .goto (70)), (418, 1, 0, .aload_n 0), (419, 2, 0, .iload 6), (421, 3, 342, .invokevirtual 186), (424, 3, 0, .goto (61)), (427, 1, 0, .aload_n 0), (428, 3, 141, .getfield 625), (431, 1, 0, .iload_n 1), (432, 2, 0, .iload 5), (434, 1, 0, .iastore), (435, 3, 0, .goto (50)), (438, 2, 0, .iload 6), (440, 3, 0, .ifCond .ne (45)), (443, 1, 0, .aload_n 0), (444, 3, 141, .getfield 625), (447, 1, 0, .iload_n 1), (448, 2, 0, .iload 5), (450, 1, 0, .iastore), (451, 3, 0, .goto (34)), (454, 1, 0, .aload_n 0), (455, 1, 0, .iload_n 2), (456, 3, 345, .invokevirtual 185), (459, 3, 0, .goto (26)), (462, 2, 0, .iload 6), (464, 3, 0, .ifCond .ne (12)), (467, 1, 0, .aload_n 0), (468, 2, 0, .bipush (6)), (470, 3, 317, .putfield 635), (473, 3, 0, .goto (12)), (476, 1, 0, .aload_n 0), (477, 2, 0, .iload 6), (479, 3, 342, .invokevirtual 186), (482, 3, 0, .goto (3)), (485, 1, 0, .return_)]
abbrev mm_m_Mo_step : mm_M := (⟨"QualifierGateModel", "step", "()V"⟩, prog_13_method_58_code, 9, none, (9, 0, false), (1357, 1356, 71, 86), mm_c_Mo_step)
def mm_c_Mo_make : List mm_I := [(0, 1, 0, .aload_n 0), (1, 3, 26, .getfield 583), (4, 1, 0, .iload_n 1), (5, 1, 0, .baload), (6, 3, 0, .ifCond .ne (11)), (9, 1, 0, .aload_n 0), (10, 1, 0, .iconst (5)), (11, 3, 317, .putfield 635), (14, 3, 0, .goto (17)), (17, 1, 0, .aload_n 0), (18, 3, 299, .getfield 629), (21, 2, 0, .bipush (24)), (23, 3, 0, .if_icmp .ne (8)), (26, 1, 0, .aload_n 0), (27, 1, 0, .iconst (2)), (28, 3, 317, .putfield 635), (31, 1, 0, .aload_n 0), (32, 3, 317, .getfield 635), (35, 3, 0, .ifCond .lt (4)), (38, 1, 0, .return_), (39, 1, 0, .aload_n 0), (40, 1, 0, .dup), (41, 3, 299, .getfield 629), (44, 1, 0, .iconst (1)), (45, 1, 0, .iadd), (46, 3, 299, .putfield 629), (49, 1, 0, .aload_n 0), (50, 3, 126, .getfield 620), (53, 1, 0, .aload_n 0), (54, 3, 299, .getfield 629), (57, 1, 0, .iload_n 1), (58, 1, 0, .iastore), (59, 1, 0, .iconst (0)), (60, 1, 0, .istore_n 2), (61, 1, 0, .iload_n 2), (62, 2, 0, .bipush (12)), (64, 3, 0, .if_icmp .ge (26)), (67, 1, 0, .aload_n 0), (68, 3, 129, .getfield 621), (71, 2, 0, .bipush (12)), (73, 1, 0, .aload_n 0), (74, 3, 299, .getfield 629), (77, 1, 0, .iconst (1)), (78, 1, 0, .isub), (79, 1, 0, .imul), (80, 1, 0, .iload_n 2), (81, 1, 0, .iadd), (82, 1, 0, .iconst (0)), (83, 1, 0, .iastore), (84, 3, 0, .iinc 2 (1)), (87, 3, 0, .goto (-26)), (90, 1, 0, .aload_n 0), (91, 1, 0, .aload_n 0), (92, 3, 299, .getfield 629), (95, 3, 333, .invokevirtual 180), (98, 1, 0, .return_)]
abbrev mm_m_Mo_make : mm_M := (⟨"QualifierGateModel", "make", "(I)V"⟩, prog_13_method_59_code, 3, none, (9, 1, false), (1369, 1368, 74, 86), mm_c_Mo_make)
def mm_c_Mo_call : List mm_I := [(0, 1, 0, .aload_n 0), (1, 3, 311, .getfield 633), (4, 1, 0, .iconst (1)), (5, 1, 0, .isub), (6, 1, 0, .istore_n 2), (7, 1, 0, .aload_n 0), (8, 3, 39, .getfield 587), (11, 1, 0, .iload_n 1), (12, 1, 0, .iaload), (13, 1, 0, .aload_n 0), (14, 3, 57, .getfield 593), (17, 1, 0, .iload_n 1), (18, 1, 0, .baload), (19, 3, 0, .ifCond .eq (7)), (22, 1, 0, .iconst (0)), (23, 3, 0, .goto (4)), (26, 1, 0, .iconst (1)), (27, 1, 0, .iadd), (28, 1, 0, .istore_n 3), (29, 1, 0, .iconst (4)), (30, 1, 0, .iload_n 2), (31, 1, 0, .imul), (32, 1, 0, .aload_n 0), (33, 3, 138, .getfield 624), (36, 1, 0, .iload_n 2), (37, 1, 0, .iaload), (38, 1, 0, .iadd), (39, 1, 0, .iload_n 3), (40, 1, 0, .isub), (41, 2, 0, .istore 4), (43, 1, 0, .iload_n 1), (44, 2, 0, .istore 5), (46, 1, 0, .aload_n 0), (47, 3, 57, .getfield 593), (50, 1, 0, .iload_n 1), (51, 1, 0, .baload), (52, 3, 0, .ifCond .ne (44)), (55, 1, 0, .aload_n 0), (56, 3, 135, .getfield 623), (59, 2, 0, .iload 4), (61, 1, 0, .iaload), (62, 3, 0, .ifCond .ne (10)), (65, 1, 0, .aload_n 0), (66, 2, 0, .bipush (6)), (68, 3, 317, .putfield 635), (71, 1, 0, .return_), (72, 1, 0, .aload_n 0), (73, 1, 0, .aload_n 0), (74, 3, 126, .getfield 620), (77, 1, 0, .aload_n 0), (78, 3, 135, .getfield 623), (81, 2, 0, .iload 4), (83, 1, 0, .iaload), (84, 1, 0, .iaload), (85, 1, 0, .aload_n 0), (86, 3, 36, .getfield 586), (89, 1, 0, .iload_n 1), (90, 1, 0, .iaload), (91, 3, 287, .invokevirtual 134), (94, 2, 0, .istore 5), (96, 1, 0, .aload_n 0), (97, 3, 26, .getfield 583), (100, 1, 0, .aload_n 0), (101, 3, 33, .getfield 585), (104, 2, 0, .iload 5), (106, 1, 0, .iaload), (107, 1, 0, .baload), (108, 3, 0, .ifCond .ne (11)), (111, 1, 0, .aload_n 0), (112, 1, 0, .iconst (5)), (113, 3, 317, .putfield 635), (116, 3, 0, .goto (27)), (119, 1, 0, .aload_n 0), (120, 3, 42, .getfield 588), (123, 2, 0, .iload 5), (125, 1, 0, .iaload), (126, 3, 0, .ifCond .ge (17)), (129, 1, 0, .aload_n 0), (130, 3, 311, .getfield 633), (133, 2, 0, .bipush (6)), (135, 3, 0, .if_icmp .ne (8)), (138, 1, 0, .aload_n 0), (139, 1, 0, .iconst (3)), (140, 3, 317, .putfield 635), (143, 1, 0, .aload_n 0), (144, 3, 317, .getfield 635), (147, 3, 0, .ifCond .lt (4)), (150, 1, 0, .return_), (151, 1, 0, .aload_n 0), (152, 3, 138, .getfield 624), (155, 1, 0, .iload_n 2), (156, 1, 0, .dup2), (157, 1, 0, .iaload), (158, 1, 0, .iload_n 3), (159, 1, 0, .isub), (160, 1, 0, .iastore), (161, 1, 0, .aload_n 0), (162, 3, 42, .getfield 588), (165, 2, 0, .iload 5), (167, 1, 0, .iaload), (168, 3, 0, .ifCond .lt (49)), (171, 1, 0, .aload_n 0), (172, 3, 39, .getfield 587), (175, 1, 0, .iload_n 1), (176, 1, 0, .iaload), (177, 3, 0, .ifCond .le (28)), (180, 1, 0, .aload_n 0), (181, 3, 135, .getfield 623), (184, 2, 0, .iload 4), (186, 1, 0, .aload_n 0), (187, 3, 57, .getfield 593), (190, 1, 0, .iload_n 1), (191, 1, 0, .baload), (192, 3, 0, .ifCond .eq (7)), (195, 1, 0, .iconst (0)), (196, 3, 0, .goto (4)), (199, 1, 0, .iconst (1)), (200, 1, 0, .iadd), (201, 1, 0, .iaload), (202, 3, 0, .goto (4)), (205, 1, 0, .iconst (0)), (206, 2, 0, .istore 6), (208, 1, 0, .aload_n 0), (209, 2, 0, .iload 5), (211, 2, 0, .iload 6), (213, 3, 348, .invokevirtual 184), (216, 1, 0, .return_), (217, 1, 0, .aload_n 0), (218, 2, 0, .iload 5), (220, 3, 323, .invokevirtual 178), (223, 1, 0, .iconst (0)), (224, 2, 0, .istore 6), (226, 2, 0, .iload 6), (228, 1, 0, .iload_n 3), (229, 3, 0, .if_icmp .ge (36)), (232, 1, 0, .aload_n 0), (233, 3, 132, .getfield 622), (236, 2, 0, .bipush (6)), (238, 1, 0, .aload_n 0), (239, 3, 311, .getfield 633), (242, 1, 0, .iconst (1)), (243, 1, 0, .isub), (244, 1, 0, .imul), (245, 2, 0, .iload 6), (247, 1, 0, .iadd), (248, 1, 0, .aload_n 0), (249, 3, 135, .getfield 623), (252, 2, 0, .iload 4), (254, 2, 0, .iload 6), (256, 1, 0, .iadd), (257, 1, 0, .iaload), (258, 1, 0, .iastore), (259, 3, 0, .iinc 6 (1)), (262, 3, 0, .goto (-36)), (265, 1, 0, .return_)]
abbrev mm_m_Mo_call : mm_M := (⟨"QualifierGateModel", "call", "(I)V"⟩, prog_13_method_60_code, 7, none, (9, 1, false), (1373, 1372, 75, 86), mm_c_Mo_call)
def mm_c_Mo_outside : List mm_I := [(0, 1, 0, .aload_n 0), (1, 3, 42, .getfield 588), (4, 1, 0, .iload_n 1), (5, 1, 0, .iaload), (6, 3, 0, .ifCond .ne (44)), (9, 1, 0, .aload_n 0), (10, 1, 0, .aload_n 0), (11, 3, 302, .getfield 630), (14, 1, 0, .aload_n 0), (15, 3, 296, .getfield 628), (18, 3, 0, .if_icmp .ge (15)), (21, 1, 0, .aload_n 0), (22, 3, 123, .getfield 619), (25, 1, 0, .aload_n 0), (26, 3, 302, .getfield 630), (29, 1, 0, .iaload), (30, 3, 0, .goto (4)), (33, 1, 0, .iconst (0)), (34, 3, 333, .invokevirtual 180), (37, 1, 0, .aload_n 0), (38, 1, 0, .dup), (39, 3, 302, .getfield 630), (42, 1, 0, .iconst (1)), (43, 1, 0, .iadd), (44, 3, 302, .putfield 630), (47, 3, 0, .goto (50)), (50, 1, 0, .aload_n 0), (51, 3, 42, .getfield 588), (54, 1, 0, .iload_n 1), (55, 1, 0, .iaload), (56, 1, 0, .iconst (1)), (57, 3, 0, .if_icmp .ne (35)), (60, 1, 0, .aload_n 0), (61, 3, 305, .getfield 631), (64, 2, 0, .bipush (16)), (66, 3, 0, .if_icmp .ge (13)), (69, 1, 0, .aload_n 0), (70, 3, 147, .getfield 627), (73, 1, 0, .aload_n 0), (74, 3, 305, .getfield 631), (77, 1, 0, .iload_n 2), (78, 1, 0, .iastore), (79, 1, 0, .aload_n 0), (80, 1, 0, .dup), (81, 3, 305, .getfield 631), (84, 1, 0, .iconst (1)), (85, 1, 0, .iadd), (86, 3, 305, .putfield 631), (89, 3, 0, .goto (8)), (92, 1, 0, .aload_n 0), (93, 1, 0, .iload_n 2), (94, 3, 333, .invokevirtual 180), (97, 1, 0, .return_)]
abbrev mm_m_Mo_outside : mm_M := (⟨"QualifierGateModel", "outside", "(II)V"⟩, prog_13_method_61_code, 3, none, (9, 2, false), (1377, 1376, 76, 86), mm_c_Mo_outside)
def mm_c_Mo_give : List mm_I := [(0, 1, 0, .aload_n 0), (1, 3, 51, .getfield 591), (4, 1, 0, .iconst (4)), (5, 1, 0, .iload_n 1), (6, 1, 0, .imul), (7, 1, 0, .iconst (3)), (8, 1, 0, .iadd), (9, 1, 0, .iaload), (10, 1, 0, .istore_n 2), (11, 1, 0, .iload_n 2), (12, 2, 0, .bipush (-2)), (14, 3, 0, .if_icmp .ne (7)), (17, 1, 0, .iconst (0)), (18, 3, 0, .goto (7)), (21, 1, 0, .aload_n 0), (22, 3, 329, .invokevirtual 179), (25, 1, 0, .istore_n 3), (26, 1, 0, .aload_n 0), (27, 1, 0, .dup), (28, 3, 311, .getfield 633), (31, 1, 0, .iconst (1)), (32, 1, 0, .isub), (33, 3, 311, .putfield 633), (36, 1, 0, .aload_n 0), (37, 3, 311, .getfield 633), (40, 3, 0, .ifCond .ne (37)), (43, 1, 0, .aload_n 0), (44, 1, 0, .iconst (0)), (45, 3, 317, .putfield 635), (48, 1, 0, .aload_n 0), (49, 1, 0, .iload_n 2), (50, 3, 0, .ifCond .ge (7)), (53, 1, 0, .iload_n 3), (54, 3, 0, .goto (17)), (57, 1, 0, .iload_n 3), (58, 3, 0, .ifCond .ne (7)), (61, 1, 0, .iconst (-1)), (62, 3, 0, .goto (9)), (65, 1, 0, .aload_n 0), (66, 3, 126, .getfield 620), (69, 1, 0, .iload_n 3), (70, 1, 0, .iaload), (71, 3, 320, .putfield 636), (74, 3, 0, .goto (14)), (77, 1, 0, .iload_n 2), (78, 2, 0, .bipush (-2)), (80, 3, 0, .if_icmp .le (8)), (83, 1, 0, .aload_n 0), (84, 1, 0, .iload_n 3), (85, 3, 333, .invokevirtual 180), (88, 1, 0, .return_)]
abbrev mm_m_Mo_give : mm_M := (⟨"QualifierGateModel", "give", "(I)V"⟩, prog_13_method_62_code, 4, none, (9, 1, false), (1385, 1384, 78, 86), mm_c_Mo_give)
def mm_c_Mo_raise : List mm_I := [(0, 1, 0, .aload_n 0), (1, 3, 311, .getfield 633), (4, 3, 0, .ifCond .le (66)), (7, 1, 0, .aload_n 0), (8, 3, 311, .getfield 633), (11, 1, 0, .iconst (1)), (12, 1, 0, .isub), (13, 1, 0, .istore_n 2), (14, 1, 0, .aload_n 0), (15, 1, 0, .aload_n 0), (16, 3, 144, .getfield 626), (19, 1, 0, .iload_n 2), (20, 1, 0, .iaload), (21, 1, 0, .aload_n 0), (22, 3, 141, .getfield 625), (25, 1, 0, .iload_n 2), (26, 1, 0, .iaload), (27, 1, 0, .iconst (1)), (28, 1, 0, .isub), (29, 3, 183, .invokevirtual 143), (32, 1, 0, .istore_n 3), (33, 1, 0, .iload_n 3), (34, 3, 0, .ifCond .lt (23)), (37, 1, 0, .aload_n 0), (38, 3, 138, .getfield 624), (41, 1, 0, .iload_n 2), (42, 1, 0, .iconst (0)), (43, 1, 0, .iastore), (44, 1, 0, .aload_n 0), (45, 1, 0, .iload_n 1), (46, 3, 333, .invokevirtual 180), (49, 1, 0, .aload_n 0), (50, 3, 141, .getfield 625), (53, 1, 0, .iload_n 2), (54, 1, 0, .iload_n 3), (55, 1, 0, .iastore), (56, 1, 0, .return_), (57, 1, 0, .aload_n 0), (58, 1, 0, .dup), (59, 3, 311, .getfield 633), (62, 1, 0, .iconst (1)), (63, 1, 0, .isub), (64, 3, 311, .putfield 633), (67, 3, 0, .goto (-67)), (70, 1, 0, .aload_n 0), (71, 1, 0, .iconst (1)), (72, 3, 317, .putfield 635), (75, 1, 0, .aload_n 0), (76, 1, 0, .aload_n 0), (77, 3, 126, .getfield 620), (80, 1, 0, .iload_n 1), (81, 1, 0, .iaload), (82, 3, 320, .putfield 636), (85, 1, 0, .return_)]
abbrev mm_m_Mo_raise : mm_M := (⟨"QualifierGateModel", "raise", "(I)V"⟩, prog_13_method_63_code, 4, none, (9, 1, false), (1381, 1380, 77, 86), mm_c_Mo_raise)
def mm_c_Mo_value : List mm_I := [(0, 1, 0, .aload_n 0), (1, 3, 320, .getfield 636), (4, 1, 0, .ireturn)]
abbrev mm_m_Mo_value : mm_M := (⟨"QualifierGateModel", "value", "()I"⟩, prog_13_method_64_code, 1, some .int, (9, 0, false), (1389, 1387, 1389, 86), mm_c_Mo_value)
def mm_c_Mo_output : List mm_I := [(0, 1, 0, .iload_n 1), (1, 1, 0, .iconst (0)), (2, 2, 0, .bipush (15)), (4, 3, 150, .invokestatic 125), (7, 3, 0, .ifCond .eq (20)), (10, 1, 0, .iload_n 1), (11, 1, 0, .aload_n 0), (12, 3, 305, .getfield 631), (15, 3, 0, .if_icmp .ge (12)), (18, 1, 0, .aload_n 0), (19, 3, 147, .getfield 627), (22, 1, 0, .iload_n 1), (23, 1, 0, .iaload), (24, 3, 0, .goto (4)), (27, 1, 0, .iconst (0)), (28, 1, 0, .ireturn)]
abbrev mm_m_Mo_output : mm_M := (⟨"QualifierGateModel", "output", "(I)I"⟩, prog_13_method_65_code, 2, some .int, (9, 1, false), (1393, 1391, 1393, 86), mm_c_Mo_output)
def mm_c_Mo_told : List mm_I := [(0, 1, 0, .iload_n 1), (1, 35, 0, .tableswitch (60) (0) (4) #[35, 40, 45, 50, 55]), (36, 1, 0, .aload_n 0), (37, 3, 308, .getfield 632), (40, 1, 0, .ireturn), (41, 1, 0, .aload_n 0), (42, 3, 299, .getfield 629), (45, 1, 0, .ireturn), (46, 1, 0, .aload_n 0), (47, 3, 305, .getfield 631), (50, 1, 0, .ireturn), (51, 1, 0, .aload_n 0), (52, 3, 302, .getfield 630), (55, 1, 0, .ireturn), (56, 1, 0, .aload_n 0), (57, 3, 314, .getfield 634), (60, 1, 0, .ireturn), (61, 1, 0, .iconst (-1)), (62, 1, 0, .ireturn)]
abbrev mm_m_Mo_told : mm_M := (⟨"QualifierGateModel", "told", "(I)I"⟩, prog_13_method_66_code, 2, some .int, (9, 1, false), (1397, 1395, 1397, 86), mm_c_Mo_told)
def mm_c_La_law : List mm_I := [(0, 3, 7, .new 0), (3, 1, 0, .dup), (4, 3, 9, .invokespecial 102), (7, 1, 0, .astore_n 1), (8, 3, 10, .new 9), (11, 1, 0, .dup), (12, 3, 12, .invokespecial 124), (15, 1, 0, .astore_n 2), (16, 1, 0, .iconst (0)), (17, 1, 0, .istore_n 3), (18, 1, 0, .iload_n 3), (19, 1, 0, .aload_n 0), (20, 1, 0, .arraylength), (21, 1, 0, .iconst (5)), (22, 1, 0, .isub), (23, 3, 0, .if_icmp .gt (798)), (26, 1, 0, .aload_n 0), (27, 1, 0, .iload_n 3), (28, 1, 0, .iaload), (29, 2, 0, .bipush (31)), (31, 1, 0, .iand), (32, 92, 0, .tableswitch (783) (0) (18) #[92, 115, 184, 243, 312, 381, 414, 457, 510, 533, 556, 579, 602, 615, 658, 681, 724, 737, 760]), (124, 1, 0, .aload_n 1), (125, 1, 0, .aload_n 0), (126, 1, 0, .iload_n 3), (127, 1, 0, .iconst (1)), (128, 1, 0, .iadd), (129, 1, 0, .iaload), (130, 3, 13, .invokevirtual 103), (133, 1, 0, .aload_n 2), (134, 1, 0, .aload_n 0), (135, 1, 0, .iload_n 3), (136, 1, 0, .iconst (1)), (137, 1, 0, .iadd), (138, 1, 0, .iaload), (139, 3, 17, .invokevirtual 131), (142, 3, 0, .if_icmp .eq (673)), (145, 1, 0, .iconst (0)), (146, 1, 0, .ireturn), (147, 1, 0, .aload_n 1), (148, 1, 0, .aload_n 0), (149, 1, 0, .iload_n 3), (150, 1, 0, .iconst (1)), (151, 1, 0, .iadd), (152, 1, 0, .iaload), (153, 1, 0, .aload_n 0), (154, 1, 0, .iload_n 3), (155, 1, 0, .iconst (2)), (156, 1, 0, .iadd), (157, 1, 0, .iaload), (158, 1, 0, .aload_n 0), (159, 1, 0, .iload_n 3), (160, 1, 0, .iconst (3)), (161, 1, 0, .iadd), (162, 1, 0, .iaload), (163, 3, 0, .ifCond .eq (7)), (166, 1, 0, .iconst (1)), (167, 3, 0, .goto (4)), (170, 1, 0, .iconst (0)), (171, 1, 0, .aload_n 0), (172, 1, 0, .iload_n 3), (173, 1, 0, .iconst (4)), (174, 1, 0, .iadd), (175, 1, 0, .iaload), (176, 3, 18, .invokevirtual 104), (179, 1, 0, .aload_n 2), (180, 1, 0, .aload_n 0), (181, 1, 0, .iload_n 3), (182, 1, 0, .iconst (1)), (183, 1, 0, .iadd), (184, 1, 0, .iaload), (185, 1, 0, .aload_n 0), (186, 1, 0, .iload_n 3), (187, 1, 0, .iconst (2)), (188, 1, 0, .iadd), (189, 1, 0, .iaload), (190, 1, 0, .aload_n 0), (191, 1, 0, .iload_n 3), (192, 1, 0, .iconst (3)), (193, 1, 0, .iadd), (194, 1, 0, .iaload), (195, 3, 0, .ifCond .eq (7)), (198, 1, 0, .iconst (1)), (199, 3, 0, .goto (4)), (202, 1, 0, .iconst (0)), (203, 1, 0, .aload_n 0), (204, 1, 0, .iload_n 3), (205, 1, 0, .iconst (4)), (206, 1, 0, .iadd), (207, 1, 0, .iaload), (208, 3, 22, .invokevirtual 132), (211, 3, 0, .if_icmp .eq (604)), (214, 1, 0, .iconst (0)), (215, 1, 0, .ireturn), (216, 1, 0, .aload_n 1), (217, 1, 0, .aload_n 0), (218, 1, 0, .iload_n 3), (219, 1, 0, .iconst (1)), (220, 1, 0, .iadd), (221, 1, 0, .iaload), (222, 1, 0, .aload_n 0), (223, 1, 0, .iload_n 3), (224, 1, 0, .iconst (2)), (225, 1, 0, .iadd), (226, 1, 0, .iaload), (227, 1, 0, .aload_n 0), (228, 1, 0, .iload_n 3), (229, 1, 0, .iconst (3)), (230, 1, 0, .iadd), (231, 1, 0, .iaload), (232, 3, 0, .ifCond .eq (7)), (235, 1, 0, .iconst (1)), (236, 3, 0, .goto (4)), (239, 1, 0, .iconst (0)), (240, 3, 23, .invokevirtual 105), (243, 1, 0, .aload_n 2), (244, 1, 0, .aload_n 0), (245, 1, 0, .iload_n 3), (246, 1, 0, .iconst (1)), (247, 1, 0, .iadd), (248, 1, 0, .iaload), (249, 1, 0, .aload_n 0), (250, 1, 0, .iload_n 3), (251, 1, 0, .iconst (2)), (252, 1, 0, .iadd), (253, 1, 0, .iaload), (254, 1, 0, .aload_n 0), (255, 1, 0, .iload_n 3), (256, 1, 0, .iconst (3)), (257, 1, 0, .iadd), (258, 1, 0, .iaload), (259, 3, 0, .ifCond .eq (7)), (262, 1, 0, .iconst (1)), (263, 3, 0, .goto (4)), (266, 1, 0, .iconst (0)), (267, 3, 27, .invokevirtual 135), (270, 3, 0, .if_icmp .eq (545)), (273, 1, 0, .iconst (0)), (274, 1, 0, .ireturn), (275, 1, 0, .aload_n 1), (276, 1, 0, .aload_n 0), (277, 1, 0, .iload_n 3), (278, 1, 0, .iconst (1)), (279, 1, 0, .iadd), (280, 1, 0, .iaload), (281, 1, 0, .aload_n 0), (282, 1, 0, .iload_n 3), (283, 1, 0, .iconst (2)), (284, 1, 0, .iadd), (285, 1, 0, .iaload), (286, 1, 0, .aload_n 0), (287, 1, 0, .iload_n 3), (288, 1, 0, .iconst (3)), (289, 1, 0, .iadd), (290, 1, 0, .iaload), (291, 3, 0, .ifCond .eq (7)), (294, 1, 0, .iconst (1)), (295, 3, 0, .goto (4)), (298, 1, 0, .iconst (0)), (299, 1, 0, .aload_n 0), (300, 1, 0, .iload_n 3), (301, 1, 0, .iconst (4)), (302, 1, 0, .iadd), (303, 1, 0, .iaload), (304, 3, 28, .invokevirtual 106), (307, 1, 0, .aload_n 2), (308, 1, 0, .aload_n 0), (309, 1, 0, .iload_n 3), (310, 1, 0, .iconst (1)), (311, 1, 0, .iadd), (312, 1, 0, .iaload), (313, 1, 0, .aload_n 0), (314, 1, 0, .iload_n 3), (315, 1, 0, .iconst (2)), (316, 1, 0, .iadd), (317, 1, 0, .iaload), (318, 1, 0, .aload_n 0), (319, 1, 0, .iload_n 3), (320, 1, 0, .iconst (3)), (321, 1, 0, .iadd), (322, 1, 0, .iaload), (323, 3, 0, .ifCond .eq (7)), (326, 1, 0, .iconst (1)), (327, 3, 0, .goto (4)), (330, 1, 0, .iconst (0)), (331, 1, 0, .aload_n 0), (332, 1, 0, .iload_n 3), (333, 1, 0, .iconst (4)), (334, 1, 0, .iadd), (335, 1, 0, .iaload), (336, 3, 31, .invokevirtual 136), (339, 3, 0, .if_icmp .eq (476)), (342, 1, 0, .iconst (0)), (343, 1, 0, .ireturn), (344, 1, 0, .aload_n 1), (345, 1, 0, .aload_n 0), (346, 1, 0, .iload_n 3), (347, 1, 0, .iconst (1)), (348, 1, 0, .iadd), (349, 1, 0, .iaload), (350, 1, 0, .aload_n 0), (351, 1, 0, .iload_n 3), (352, 1, 0, .iconst (2)), (353, 1, 0, .iadd), (354, 1, 0, .iaload), (355, 1, 0, .aload_n 0), (356, 1, 0, .iload_n 3), (357, 1, 0, .iconst (3)), (358, 1, 0, .iadd), (359, 1, 0, .iaload), (360, 3, 0, .ifCond .eq (7)), (363, 1, 0, .iconst (1)), (364, 3, 0, .goto (4)), (367, 1, 0, .iconst (0)), (368, 1, 0, .aload_n 0), (369, 1, 0, .iload_n 3), (370, 1, 0, .iconst (4)), (371, 1, 0, .iadd), (372, 1, 0, .iaload), (373, 3, 32, .invokevirtual 107), (376, 1, 0, .aload_n 2), (377, 1, 0, .aload_n 0), (378, 1, 0, .iload_n 3), (379, 1, 0, .iconst (1)), (380, 1, 0, .iadd), (381, 1, 0, .iaload), (382, 1, 0, .aload_n 0), (383, 1, 0, .iload_n 3), (384, 1, 0, .iconst (2)), (385, 1, 0, .iadd), (386, 1, 0, .iaload), (387, 1, 0, .aload_n 0), (388, 1, 0, .iload_n 3), (389, 1, 0, .iconst (3)), (390, 1, 0, .iadd), (391, 1, 0, .iaload), (392, 3, 0, .ifCond .eq (7)), (395, 1, 0, .iconst (1)), (396, 3, 0, .goto (4)), (399, 1, 0, .iconst (0)), (400, 1, 0, .aload_n 0), (401, 1, 0, .iload_n 3), (402, 1, 0, .iconst (4)), (403, 1, 0, .iadd), (404, 1, 0, .iaload), (405, 3, 36, .invokevirtual 138), (408, 3, 0, .if_icmp .eq (407)), (411, 1, 0, .iconst (0)), (412, 1, 0, .ireturn), (413, 1, 0, .aload_n 1), (414, 1, 0, .aload_n 0), (415, 1, 0, .iload_n 3), (416, 1, 0, .iconst (1)), (417, 1, 0, .iadd), (418, 1, 0, .iaload), (419, 1, 0, .aload_n 0), (420, 1, 0, .iload_n 3), (421, 1, 0, .iconst (2)), (422, 1, 0, .iadd), (423, 1, 0, .iaload), (424, 3, 37, .invokevirtual 108), (427, 1, 0, .aload_n 2), (428, 1, 0, .aload_n 0), (429, 1, 0, .iload_n 3), (430, 1, 0, .iconst (1)), (431, 1, 0, .iadd), (432, 1, 0, .iaload), (433, 1, 0, .aload_n 0), (434, 1, 0, .iload_n 3), (435, 1, 0, .iconst (2)), (436, 1, 0, .iadd), (437, 1, 0, .iaload), (438, 3, 41, .invokevirtual 139), (441, 3, 0, .if_icmp .eq (374)), (444, 1, 0, .iconst (0)), (445, 1, 0, .ireturn), (446, 1, 0, .aload_n 1), (447, 1, 0, .aload_n 0), (448, 1, 0, .iload_n 3), (449, 1, 0, .iconst (1)), (450, 1, 0, .iadd), (451, 1, 0, .iaload), (452, 1, 0, .aload_n 0), (453, 1, 0, .iload_n 3), (454, 1, 0, .iconst (2)), (455, 1, 0, .iadd), (456, 1, 0, .iaload), (457, 1, 0, .aload_n 0), (458, 1, 0, .iload_n 3), (459, 1, 0, .iconst (3)), (460, 1, 0, .iadd), (461, 1, 0, .iaload), (462, 3, 42, .invokevirtual 109), (465, 1, 0, .aload_n 2), (466, 1, 0, .aload_n 0), (467, 1, 0, .iload_n 3), (468, 1, 0, .iconst (1)), (469, 1, 0, .iadd), (470, 1, 0, .iaload), (471, 1, 0, .aload_n 0), (472, 1, 0, .iload_n 3), (473, 1, 0, .iconst (2)), (474, 1, 0, .iadd), (475, 1, 0, .iaload), (476, 1, 0, .aload_n 0), (477, 1, 0, .iload_n 3), (478, 1, 0, .iconst (3)), (479, 1, 0, .iadd), (480, 1, 0, .iaload), (481, 3, 46, .invokevirtual 140), (484, 3, 0, .if_icmp .eq (331)), (487, 1, 0, .iconst (0)), (488, 1, 0, .ireturn), (489, 1, 0, .aload_n 1), (490, 1, 0, .aload_n 0), (491, 1, 0, .iload_n 3), (492, 1, 0, .iconst (1)), (493, 1, 0, .iadd), (494, 1, 0, .iaload), (495, 1, 0, .aload_n 0), (496, 1, 0, .iload_n 3), (497, 1, 0, .iconst (2)), (498, 1, 0, .iadd), (499, 1, 0, .iaload), (500, 1, 0, .aload_n 0), (501, 1, 0, .iload_n 3), (502, 1, 0, .iconst (3)), (503, 1, 0, .iadd), (504, 1, 0, .iaload), (505, 1, 0, .aload_n 0), (506, 1, 0, .iload_n 3), (507, 1, 0, .iconst (4)), (508, 1, 0, .iadd), (509, 1, 0, .iaload), (510, 3, 47, .invokevirtual 110), (513, 1, 0, .aload_n 2), (514, 1, 0, .aload_n 0), (515, 1, 0, .iload_n 3), (516, 1, 0, .iconst (1)), (517, 1, 0, .iadd), (518, 1, 0, .iaload), (519, 1, 0, .aload_n 0), (520, 1, 0, .iload_n 3), (521, 1, 0, .iconst (2)), (522, 1, 0, .iadd), (523, 1, 0, .iaload), (524, 1, 0, .aload_n 0), (525, 1, 0, .iload_n 3), (526, 1, 0, .iconst (3)), (527, 1, 0, .iadd), (528, 1, 0, .iaload), (529, 1, 0, .aload_n 0), (530, 1, 0, .iload_n 3), (531, 1, 0, .iconst (4)), (532, 1, 0, .iadd), (533, 1, 0, .iaload), (534, 3, 51, .invokevirtual 141), (537, 3, 0, .if_icmp .eq (278)), (540, 1, 0, .iconst (0)), (541, 1, 0, .ireturn), (542, 1, 0, .aload_n 1), (543, 1, 0, .aload_n 0), (544, 1, 0, .iload_n 3), (545, 1, 0, .iconst (1)), (546, 1, 0, .iadd), (547, 1, 0, .iaload), (548, 3, 52, .invokevirtual 111), (551, 1, 0, .aload_n 2), (552, 1, 0, .aload_n 0), (553, 1, 0, .iload_n 3), (554, 1, 0, .iconst (1)), (555, 1, 0, .iadd), (556, 1, 0, .iaload), (557, 3, 55, .invokevirtual 142), (560, 3, 0, .if_icmp .eq (255)), (563, 1, 0, .iconst (0)), (564, 1, 0, .ireturn), (565, 1, 0, .aload_n 1), (566, 1, 0, .aload_n 0), (567, 1, 0, .iload_n 3), (568, 1, 0, .iconst (1)), (569, 1, 0, .iadd), (570, 1, 0, .iaload), (571, 3, 56, .invokevirtual 112), (574, 1, 0, .aload_n 2), (575, 1, 0, .aload_n 0), (576, 1, 0, .iload_n 3), (577, 1, 0, .iconst (1)), (578, 1, 0, .iadd), (579, 1, 0, .iaload), (580, 3, 59, .invokevirtual 169), (583, 3, 0, .if_icmp .eq (232)), (586, 1, 0, .iconst (0)), (587, 1, 0, .ireturn), (588, 1, 0, .aload_n 1), (589, 1, 0, .aload_n 0), (590, 1, 0, .iload_n 3), (591, 1, 0, .iconst (1)), (592, 1, 0, .iadd), (593, 1, 0, .iaload), (594, 3, 60, .invokevirtual 113), (597, 1, 0, .aload_n 2), (598, 1, 0, .aload_n 0), (599, 1, 0, .iload_n 3), (600, 1, 0, .iconst (1)), (601, 1, 0, .iadd), (602, 1, 0, .iaload), (603, 3, 63, .invokevirtual 172), (606, 3, 0, .if_icmp .eq (209)), (609, 1, 0, .iconst (0)), (610, 1, 0, .ireturn), (611, 1, 0, .aload_n 1), (612, 1, 0, .aload_n 0), (613, 1, 0, .iload_n 3), (614, 1, 0, .iconst (1)), (615, 1, 0, .iadd), (616, 1, 0, .iaload), (617, 3, 64, .invokevirtual 114), (620, 1, 0, .aload_n 2), (621, 1, 0, .aload_n 0), (622, 1, 0, .iload_n 3), (623, 1, 0, .iconst (1)), (624, 1, 0, .iadd), (625, 1, 0, .iaload), (626, 3, 68, .invokevirtual 173), (629, 3, 0, .if_icmp .eq (186)), (632, 1, 0, .iconst (0)), (633, 1, 0, .ireturn), (634, 1, 0, .aload_n 1), (635, 3, 69, .invokevirtual 115), (638, 1, 0, .aload_n 2), (639, 3, 73, .invokevirtual 174), (642, 3, 0, .if_icmp .eq (173)), (645, 1, 0, .iconst (0)), (646, 1, 0, .ireturn), (647, 1, 0, .aload_n 1), (648, 1, 0, .aload_n 0), (649, 1, 0, .iload_n 3), (650, 1, 0, .iconst (1)), (651, 1, 0, .iadd), (652, 1, 0, .iaload), (653, 1, 0, .aload_n 0), (654, 1, 0, .iload_n 3), (655, 1, 0, .iconst (2)), (656, 1, 0, .iadd), (657, 1, 0, .iaload), (658, 1, 0, .aload_n 0), (659, 1, 0, .iload_n 3), (660, 1, 0, .iconst (3)), (661, 1, 0, .iadd), (662, 1, 0, .iaload), (663, 3, 74, .invokevirtual 116), (666, 1, 0, .aload_n 2), (667, 1, 0, .aload_n 0), (668, 1, 0, .iload_n 3), (669, 1, 0, .iconst (1)), (670, 1, 0, .iadd), (671, 1, 0, .iaload), (672, 1, 0, .aload_n 0), (673, 1, 0, .iload_n 3), (674, 1, 0, .iconst (2)), (675, 1, 0, .iadd), (676, 1, 0, .iaload), (677, 1, 0, .aload_n 0), (678, 1, 0, .iload_n 3), (679, 1, 0, .iconst (3)), (680, 1, 0, .iadd), (681, 1, 0, .iaload), (682, 3, 77, .invokevirtual 175), (685, 3, 0, .if_icmp .eq (130)), (688, 1, 0, .iconst (0)), (689, 1, 0, .ireturn), (690, 1, 0, .aload_n 1), (691, 1, 0, .aload_n 0), (692, 1, 0, .iload_n 3), (693, 1, 0, .iconst (1)), (694, 1, 0, .iadd), (695, 1, 0, .iaload), (696, 3, 78, .invokevirtual 117), (699, 1, 0, .aload_n 2), (700, 1, 0, .aload_n 0), (701, 1, 0, .iload_n 3), (702, 1, 0, .iconst (1)), (703, 1, 0, .iadd), (704, 1, 0, .iaload), (705, 3, 81, .invokevirtual 176), (708, 3, 0, .if_icmp .eq (107)), (711, 1, 0, .iconst (0)), (712, 1, 0, .ireturn), (713, 1, 0, .aload_n 1), (714, 1, 0, .aload_n 0), (715, 1, 0, .iload_n 3), (716, 1, 0, .iconst (1)), (717, 1, 0, .iadd), (718, 1, 0, .iaload), (719, 1, 0, .aload_n 0), (720, 1, 0, .iload_n 3), (721, 1, 0, .iconst (2)), (722, 1, 0, .iadd), (723, 1, 0, .iaload), (724, 1, 0, .aload_n 0), (725, 1, 0, .iload_n 3), (726, 1, 0, .iconst (3)), (727, 1, 0, .iadd), (728, 1, 0, .iaload), (729, 3, 82, .invokevirtual 118), (732, 1, 0, .aload_n 2), (733, 1, 0, .aload_n 0), (734, 1, 0, .iload_n 3), (735, 1, 0, .iconst (1)), (736, 1, 0, .iadd), (737, 1, 0, .iaload), (738, 1, 0, .aload_n 0), (739, 1, 0, .iload_n 3), (740, 1, 0, .iconst (2)), (741, 1, 0, .iadd), (742, 1, 0, .iaload), (743, 1, 0, .aload_n 0), (744, 1, 0, .iload_n 3), (745, 1, 0, .iconst (3)), (746, 1, 0, .iadd), (747, 1, 0, .iaload), (748, 3, 85, .invokevirtual 177), (751, 3, 0, .if_icmp .eq (64)), (754, 1, 0, .iconst (0)), (755, 1, 0, .ireturn), (756, 1, 0, .aload_n 1), (757, 3, 86, .invokevirtual 119), (760, 1, 0, .aload_n 2), (761, 3, 89, .invokevirtual 187), (764, 3, 0, .if_icmp .eq (51)), (767, 1, 0, .iconst (0)), (768, 1, 0, .ireturn), (769, 1, 0, .aload_n 1), (770, 1, 0, .aload_n 0), (771, 1, 0, .iload_n 3), (772, 1, 0, .iconst (1)), (773, 1, 0, .iadd), (774, 1, 0, .iaload), (775, 3, 90, .invokevirtual 120), (778, 1, 0, .aload_n 2), (779, 1, 0, .aload_n 0), (780, 1, 0, .iload_n 3), (781, 1, 0, .iconst (1)), (782, 1, 0, .iadd), (783, 1, 0, .iaload), (784, 3, 93, .invokevirtual 188), (787, 3, 0, .if_icmp .eq (28)), (790, 1, 0, .iconst (0)), (791, 1, 0, .ireturn), (792, 1, 0, .aload_n 1), (793, 1, 0, .aload_n 0), (794, 1, 0, .iload_n 3), (795, 1, 0, .iconst (1)), (796, 1, 0, .iadd), (797, 1, 0, .iaload), (798, 3, 94, .invokevirtual 121), (801, 1, 0, .aload_n 2), (802, 1, 0, .aload_n 0), (803, 1, 0, .iload_n 3), (804, 1, 0, .iconst (1)), (805, 1, 0, .iadd), (806, 1, 0, .iaload), (807, 3, 97, .invokevirtual 189), (810, 3, 0, .if_icmp .eq (5)), (813, 1, 0, .iconst (0)), (814, 1, 0, .ireturn), (815, 3, 0, .iinc 3 (5)), (818, 3, 0, .goto (-800)), (821, 1, 0, .iconst (1)), (822, 1, 0, .ireturn)]
abbrev mm_m_La_law : mm_M := (⟨"QualifierGateLaw", "law", "([I)Z"⟩, code, 4, some .boolean, (10, 1, true), (0, 0, 0, 78), mm_c_La_law)
abbrev n_Op_goesOn : Nat := 0
abbrev n_Op_jumps : Nat := 1
abbrev n_Op_mayThrow : Nat := 2
abbrev n_Va_of : Nat := 3
abbrev n_Va_ofPlace : Nat := 4
abbrev n_Va_kind : Nat := 5
abbrev n_Va_classOf : Nat := 6
abbrev n_Va_may : Nat := 7
abbrev n_Va_marks : Nat := 8
abbrev n_Va_origin : Nat := 9
abbrev n_Va_withOrigin : Nat := 10
abbrev n_Va_withKind : Nat := 11
abbrev n_Va_notNull : Nat := 12
abbrev n_Va_join : Nat := 13
abbrev n_Va_part : Nat := 14
abbrev n_Pl_init : Nat := 15
abbrev n_Pl_become : Nat := 16
abbrev n_Me_init : Nat := 17
abbrev n_Me_addParam : Nat := 18
abbrev n_Me_addInstruction : Nat := 19
abbrev n_Me_addGuard : Nat := 20
abbrev n_Me_clear : Nat := 21
abbrev n_Me_isBuiltIn : Nat := 22
abbrev n_Me_gives : Nat := 23
abbrev n_Me_takes : Nat := 24
abbrev n_Me_firstParam : Nat := 25
abbrev n_Me_caughtAt : Nat := 26
abbrev n_St_init : Nat := 27
abbrev n_St_makeClass : Nat := 28
abbrev n_St_makeField : Nat := 29
abbrev n_St_makeMethod : Nat := 30
abbrev n_St_isClass : Nat := 31
abbrev n_St_isMethod : Nat := 32
abbrev n_St_isPlace : Nat := 33
abbrev n_St_isArgument : Nat := 34
abbrev n_St_below : Nat := 35
abbrev n_St_common : Nat := 36
abbrev n_St_own : Nat := 37
abbrev n_St_nearest : Nat := 38
abbrev n_St_pops : Nat := 39
abbrev n_St_breaksStack : Nat := 40
abbrev n_St_canStart : Nat := 41
abbrev n_Fr_init : Nat := 42
abbrev n_Fr_become : Nat := 43
abbrev n_Fr_push : Nat := 44
abbrev n_Fr_pop : Nat := 45
abbrev n_Fr_under : Nat := 46
abbrev n_Fr_store : Nat := 47
abbrev n_Fr_leaveSite : Nat := 48
abbrev n_Fr_join : Nat := 49
abbrev n_Ru_init : Nat := 50
abbrev n_Ru_wayError : Nat := 51
abbrev n_Ru_leadsAway : Nat := 52
abbrev n_Ru_valueError : Nat := 53
abbrev n_Ru_first : Nat := 54
abbrev n_Ru_intError : Nat := 55
abbrev n_Ru_isReference : Nat := 56
abbrev n_Ru_referenceError : Nat := 57
abbrev n_Ru_holderError : Nat := 58
abbrev n_Ru_comingError : Nat := 59
abbrev n_Ru_callError : Nat := 60
abbrev n_Ru_builtError : Nat := 61
abbrev n_Ru_isFitBuiltIn : Nat := 62
abbrev n_Ru_fits : Nat := 63
abbrev n_Ru_fitsWithMarks : Nat := 64
abbrev n_Ru_mayReplace : Nat := 65
abbrev n_Lo_init : Nat := 66
abbrev n_Lo_frameAt : Nat := 67
abbrev n_Lo_through : Nat := 68
abbrev n_Lo_departs : Nat := 69
abbrev n_Lo_begin : Nat := 70
abbrev n_Lo_settle : Nat := 71
abbrev n_Lo_leave : Nat := 72
abbrev n_Lo_beginCatch : Nat := 73
abbrev n_Lo_arrive : Nat := 74
abbrev n_Lo_applyToValues : Nat := 75
abbrev n_Lo_applyToStock : Nat := 76
abbrev n_Lo_get : Nat := 77
abbrev n_Lo_put : Nat := 78
abbrev n_Lo_call : Nat := 79
abbrev n_Lo_isNull : Nat := 80
abbrev n_Ac_init : Nat := 81
abbrev n_Ac_begin : Nat := 82
abbrev n_Ac_push : Nat := 83
abbrev n_Ac_pop : Nat := 84
abbrev n_Ma_init : Nat := 85
abbrev n_Ma_addInput : Nat := 86
abbrev n_Ma_start : Nat := 87
abbrev n_Ma_enter : Nat := 88
abbrev n_Ma_perform : Nat := 89
abbrev n_Ma_performOnObjects : Nat := 90
abbrev n_Ma_pushAndGoOn : Nat := 91
abbrev n_Ma_isObject : Nat := 92
abbrev n_Ma_makeObject : Nat := 93
abbrev n_Ma_get : Nat := 94
abbrev n_Ma_put : Nat := 95
abbrev n_Ma_cast : Nat := 96
abbrev n_Ma_call : Nat := 97
abbrev n_Ma_callBuiltIn : Nat := 98
abbrev n_Ma_give : Nat := 99
abbrev n_Ma_classOf : Nat := 100
abbrev n_Ma_raise : Nat := 101
abbrev n_Ga_init : Nat := 102
abbrev n_Ga_cls : Nat := 103
abbrev n_Ga_field : Nat := 104
abbrev n_Ga_method : Nat := 105
abbrev n_Ga_param : Nat := 106
abbrev n_Ga_result : Nat := 107
abbrev n_Ga_builtIn : Nat := 108
abbrev n_Ga_add : Nat := 109
abbrev n_Ga_guard : Nat := 110
abbrev n_Ga_wipe : Nat := 111
abbrev n_Ga_check : Nat := 112
abbrev n_Ga_load : Nat := 113
abbrev n_Ga_isLoaded : Nat := 114
abbrev n_Ga_place : Nat := 115
abbrev n_Ga_frame : Nat := 116
abbrev n_Ga_input : Nat := 117
abbrev n_Ga_run : Nat := 118
abbrev n_Ga_value : Nat := 119
abbrev n_Ga_output : Nat := 120
abbrev n_Ga_told : Nat := 121
abbrev n_Ga_placeOf : Nat := 122
abbrev n_Ga_within : Nat := 123
abbrev n_Mo_init : Nat := 124
abbrev n_Mo_within : Nat := 125
abbrev n_Mo_isClass : Nat := 126
abbrev n_Mo_isMethod : Nat := 127
abbrev n_Mo_frozen : Nat := 128
abbrev n_Mo_isBelow : Nat := 129
abbrev n_Mo_says : Nat := 130
abbrev n_Mo_cls : Nat := 131
abbrev n_Mo_field : Nat := 132
abbrev n_Mo_own : Nat := 133
abbrev n_Mo_find : Nat := 134
abbrev n_Mo_method : Nat := 135
abbrev n_Mo_param : Nat := 136
abbrev n_Mo_say : Nat := 137
abbrev n_Mo_result : Nat := 138
abbrev n_Mo_builtIn : Nat := 139
abbrev n_Mo_add : Nat := 140
abbrev n_Mo_guard : Nat := 141
abbrev n_Mo_wipe : Nat := 142
abbrev n_Mo_guardOf : Nat := 143
abbrev n_Mo_pops : Nat := 144
abbrev n_Mo_pushes : Nat := 145
abbrev n_Mo_wayOf : Nat := 146
abbrev n_Mo_isShort : Nat := 147
abbrev n_Mo_set : Nat := 148
abbrev n_Mo_push : Nat := 149
abbrev n_Mo_pushSaid : Nat := 150
abbrev n_Mo_start : Nat := 151
abbrev n_Mo_take : Nat := 152
abbrev n_Mo_keep : Nat := 153
abbrev n_Mo_come : Nat := 154
abbrev n_Mo_join : Nat := 155
abbrev n_Mo_settle : Nat := 156
abbrev n_Mo_look : Nat := 157
abbrev n_Mo_flow : Nat := 158
abbrev n_Mo_effect : Nat := 159
abbrev n_Mo_wrongFor : Nat := 160
abbrev n_Mo_isRef : Nat := 161
abbrev n_Mo_wrongObject : Nat := 162
abbrev n_Mo_least : Nat := 163
abbrev n_Mo_errorAt : Nat := 164
abbrev n_Mo_wrongCall : Nat := 165
abbrev n_Mo_lacks : Nat := 166
abbrev n_Mo_isOutside : Nat := 167
abbrev n_Mo_inspect : Nat := 168
abbrev n_Mo_check : Nat := 169
abbrev n_Mo_parts : Nat := 170
abbrev n_Mo_varies : Nat := 171
abbrev n_Mo_load : Nat := 172
abbrev n_Mo_isLoaded : Nat := 173
abbrev n_Mo_place : Nat := 174
abbrev n_Mo_frame : Nat := 175
abbrev n_Mo_input : Nat := 176
abbrev n_Mo_run : Nat := 177
abbrev n_Mo_enter : Nat := 178
abbrev n_Mo_pull : Nat := 179
abbrev n_Mo_lay : Nat := 180
abbrev n_Mo_step : Nat := 181
abbrev n_Mo_make : Nat := 182
abbrev n_Mo_call : Nat := 183
abbrev n_Mo_outside : Nat := 184
abbrev n_Mo_give : Nat := 185
abbrev n_Mo_raise : Nat := 186
abbrev n_Mo_value : Nat := 187
abbrev n_Mo_output : Nat := 188
abbrev n_Mo_told : Nat := 189
abbrev n_La_law : Nat := 190
/-- all methods but the law -/
def mm_ms : List mm_M := [mm_m_Op_goesOn, mm_m_Op_jumps, mm_m_Op_mayThrow, mm_m_Va_of, mm_m_Va_ofPlace, mm_m_Va_kind, mm_m_Va_classOf, mm_m_Va_may, mm_m_Va_marks, mm_m_Va_origin, mm_m_Va_withOrigin, mm_m_Va_withKind, mm_m_Va_notNull, mm_m_Va_join, mm_m_Va_part, mm_m_Pl_init, mm_m_Pl_become, mm_m_Me_init, mm_m_Me_addParam, mm_m_Me_addInstruction, mm_m_Me_addGuard, mm_m_Me_clear, mm_m_Me_isBuiltIn, mm_m_Me_gives, mm_m_Me_takes, mm_m_Me_firstParam, mm_m_Me_caughtAt, mm_m_St_init, mm_m_St_makeClass, mm_m_St_makeField, mm_m_St_makeMethod, mm_m_St_isClass, mm_m_St_isMethod, mm_m_St_isPlace, mm_m_St_isArgument, mm_m_St_below, mm_m_St_common, mm_m_St_own, mm_m_St_nearest, mm_m_St_pops, mm_m_St_breaksStack, mm_m_St_canStart, mm_m_Fr_init, mm_m_Fr_become, mm_m_Fr_push, mm_m_Fr_pop, mm_m_Fr_under, mm_m_Fr_store, mm_m_Fr_leaveSite, mm_m_Fr_join, mm_m_Ru_init, mm_m_Ru_wayError, mm_m_Ru_leadsAway, mm_m_Ru_valueError, mm_m_Ru_first, mm_m_Ru_intError, mm_m_Ru_isReference, mm_m_Ru_referenceError, mm_m_Ru_holderError, mm_m_Ru_comingError, mm_m_Ru_callError, mm_m_Ru_builtError, mm_m_Ru_isFitBuiltIn, mm_m_Ru_fits, mm_m_Ru_fitsWithMarks, mm_m_Ru_mayReplace, mm_m_Lo_init, mm_m_Lo_frameAt, mm_m_Lo_through, mm_m_Lo_departs, mm_m_Lo_begin, mm_m_Lo_settle, mm_m_Lo_leave, mm_m_Lo_beginCatch, mm_m_Lo_arrive, mm_m_Lo_applyToValues, mm_m_Lo_applyToStock, mm_m_Lo_get, mm_m_Lo_put, mm_m_Lo_call, mm_m_Lo_isNull, mm_m_Ac_init, mm_m_Ac_begin, mm_m_Ac_push, mm_m_Ac_pop, mm_m_Ma_init, mm_m_Ma_addInput, mm_m_Ma_start, mm_m_Ma_enter, mm_m_Ma_perform, mm_m_Ma_performOnObjects, mm_m_Ma_pushAndGoOn, mm_m_Ma_isObject, mm_m_Ma_makeObject, mm_m_Ma_get, mm_m_Ma_put, mm_m_Ma_cast, mm_m_Ma_call, mm_m_Ma_callBuiltIn, mm_m_Ma_give, mm_m_Ma_classOf, mm_m_Ma_raise, mm_m_Ga_init, mm_m_Ga_cls, mm_m_Ga_field, mm_m_Ga_method, mm_m_Ga_param, mm_m_Ga_result, mm_m_Ga_builtIn, mm_m_Ga_add, mm_m_Ga_guard, mm_m_Ga_wipe, mm_m_Ga_check, mm_m_Ga_load, mm_m_Ga_isLoaded, mm_m_Ga_place, mm_m_Ga_frame, mm_m_Ga_input, mm_m_Ga_run, mm_m_Ga_value, mm_m_Ga_output, mm_m_Ga_told, mm_m_Ga_placeOf, mm_m_Ga_within, mm_m_Mo_init, mm_m_Mo_within, mm_m_Mo_isClass, mm_m_Mo_isMethod, mm_m_Mo_frozen, mm_m_Mo_isBelow, mm_m_Mo_says, mm_m_Mo_cls, mm_m_Mo_field, mm_m_Mo_own, mm_m_Mo_find, mm_m_Mo_method, mm_m_Mo_param, mm_m_Mo_say, mm_m_Mo_result, mm_m_Mo_builtIn, mm_m_Mo_add, mm_m_Mo_guard, mm_m_Mo_wipe, mm_m_Mo_guardOf, mm_m_Mo_pops, mm_m_Mo_pushes, mm_m_Mo_wayOf, mm_m_Mo_isShort, mm_m_Mo_set, mm_m_Mo_push, mm_m_Mo_pushSaid, mm_m_Mo_start, mm_m_Mo_take, mm_m_Mo_keep, mm_m_Mo_come, mm_m_Mo_join, mm_m_Mo_settle, mm_m_Mo_look, mm_m_Mo_flow, mm_m_Mo_effect, mm_m_Mo_wrongFor, mm_m_Mo_isRef, mm_m_Mo_wrongObject, mm_m_Mo_least, mm_m_Mo_errorAt, mm_m_Mo_wrongCall, mm_m_Mo_lacks, mm_m_Mo_isOutside, mm_m_Mo_inspect, mm_m_Mo_check, mm_m_Mo_parts, mm_m_Mo_varies, mm_m_Mo_load, mm_m_Mo_isLoaded, mm_m_Mo_place, mm_m_Mo_frame, mm_m_Mo_input, mm_m_Mo_run, mm_m_Mo_enter, mm_m_Mo_pull, mm_m_Mo_lay, mm_m_Mo_step, mm_m_Mo_make, mm_m_Mo_call, mm_m_Mo_outside, mm_m_Mo_give, mm_m_Mo_raise, mm_m_Mo_value, mm_m_Mo_output, mm_m_Mo_told]
end
section
/-! what is checked of the tables -/
/-- the instruction as it stands in the class file -/
def mm_or (idx : Nat) (i : Instr) : Instr := match i with
  | .getfield _ => .getfield idx
  | .putfield _ => .putfield idx
  | .getstatic _ => .getstatic idx
  | .invokevirtual _ => .invokevirtual idx
  | .invokespecial _ => .invokespecial idx
  | .invokestatic _ => .invokestatic idx
  | .new _ => .new idx
  | .anewarray _ => .anewarray idx
  | i => i
/-- how long an instruction is (switches: 0) -/
def mm_ln (i : Instr) : Nat := match i with
  | .iload _ | .aload _ | .istore _ | .astore _ | .bipush _ | .newarray _ => 2
  | .iinc _ _ | .sipush _ | .getfield _ | .putfield _ | .getstatic _ | .invokevirtual _ | .invokespecial _ | .invokestatic _ | .new _ | .anewarray _ | .goto _ | .ifCond _ _ | .if_icmp _ _ | .ifnull _ | .ifnonnull _ => 3
  | .tableswitch _ _ _ _ | .lookupswitch _ _ => 0
  | _ => 1
def mm_has3 (l : List (Nat × Nat × Nat × Nat)) (a b c : Nat) : Bool := l.any (fun t => t.1 == a && t.2.1 == b && t.2.2.1 == c)
def mm_hasn (l : List (Nat × Nat × Nat)) (a b c : Nat) : Bool := l.any (fun t => t.1 == a && t.2.1 == b && t.2.2 == c)
/-- what an instruction's links ask -/
def mm_lk (M : mm_M) (pc idx : Nat) (i : Instr) : Bool := match i with
  | .goto off => decide (0 ≤ (pc : Int) + off)
  | .ifCond _ off => decide (0 ≤ (pc : Int) + off)
  | .if_icmp _ off => decide (0 ≤ (pc : Int) + off)
  | .ifnull off => decide (0 ≤ (pc : Int) + off)
  | .ifnonnull off => decide (0 ≤ (pc : Int) + off)
  | .tableswitch d _ _ offs => decide (0 ≤ (pc : Int) + d) && offs.toList.all (fun o => decide (0 ≤ (pc : Int) + o))
  | .lookupswitch d ps => decide (0 ≤ (pc : Int) + d) && ps.toList.all (fun o => decide (0 ≤ (pc : Int) + o.2)) && (ps.toList.zip (ps.toList.drop 1)).all (fun (a, next) => a.1 < next.1)
  | .getfield f => mm_has3 mm_fl M.2.2.2.2.1.1 idx f && decide (f / 64 < 10) && decide (f % 64 < (mm_fks.getD (f / 64) []).length)
  | .putfield f => mm_has3 mm_fl M.2.2.2.2.1.1 idx f && decide (f / 64 < 10) && decide (f % 64 < (mm_fks.getD (f / 64) []).length) && (!((mm_fin.getD (f / 64) []).getD (f % 64) true) || (M.1.name == "<init>" && f / 64 == M.2.2.2.2.1.1))
  | .getstatic k => mm_hasn mm_sl M.2.2.2.2.1.1 idx k
  | .new c => mm_has3 mm_nc M.2.2.2.2.1.1 idx c
  | .anewarray t => mm_has3 mm_na M.2.2.2.2.1.1 idx t
  | .invokevirtual z => mm_has3 mm_ml M.2.2.2.2.1.1 idx z && (match mm_ms[z]? with
    | some Z => !Z.2.2.2.2.1.2.2 && !(Z.2.2.2.2.2.1.2.2.1 == 0)
    | none => false)
  | .invokespecial z => (mm_has3 mm_ml M.2.2.2.2.1.1 idx z || mm_hasn mm_mn M.2.2.2.2.1.1 idx z) && (if z = 1000 then mm_has3 mm_ml M.2.2.2.2.1.1 idx z else match mm_ms[z]? with
    | some Z => !Z.2.2.2.2.1.2.2 && Z.1.name == "<init>" && (match Z.2.2.2.1 with | none => true | some _ => false)
    | none => false)
  | .invokestatic z => (mm_has3 mm_ml M.2.2.2.2.1.1 idx z || mm_hasn mm_mn M.2.2.2.2.1.1 idx z) && (if 1001 ≤ z then mm_has3 mm_ml M.2.2.2.2.1.1 idx z else match mm_ms[z]? with
    | some Z => Z.2.2.2.2.1.2.2
    | none => false)
  | .iload k | .aload k | .istore k | .astore k => decide (k < M.2.2.1)
  | .iload_n k | .aload_n k | .istore_n k | .astore_n k => decide (k.val < M.2.2.1)
  | .iinc k _ => decide (k < M.2.2.1)
  | _ => true
def mm_ok1 (M : mm_M) (e : mm_I) : Bool := decide (decode M.2.1 e.1 = .ok (mm_or e.2.2.1 e.2.2.2, e.2.1)) && (decide (mm_ln e.2.2.2 = 0) || decide (mm_ln e.2.2.2 = e.2.1)) && mm_lk M e.1 e.2.2.1 e.2.2.2
def mm_ok2 (M : mm_M) : Prop := lw_tbl[M.2.2.2.2.2.1.1]? = some (.code M.1 M.2.1 M.2.2.1 M.2.2.2.1) ∧ lw_tbl[M.2.2.2.2.2.1.2.1]? = some (if M.2.2.2.2.1.2.2 then .static M.1 else .instanceMethod M.1) ∧ (M.2.2.2.2.2.1.2.2.1 ≠ 0 → lw_tbl[M.2.2.2.2.2.1.2.2.1 - 1]? = some (.selects M.1.cls M.1 M.1)) ∧ lw_tbl[M.2.2.2.2.2.1.2.2.2]? = some (.initialized M.1.cls) ∧ (mm_N[M.2.2.2.2.1.1]? = some M.1.cls ∧ plainName M.1.cls = true ∧ M.1.cls ≠ "java/lang/invoke/MethodHandle" ∧ M.1.cls ≠ "java/lang/invoke/VarHandle" ∧ (parseMethodDescriptor M.1.desc).map (fun d => d.parameters.length) = some M.2.2.2.2.1.2.1 ∧ M.2.2.1 ≤ 20)
def mm_G : List Jvm.Cond := lw_tbl.filter goodWord
def mm_nme (z : Nat) : Option MethodName := if z = 1000 then some objectInit else if z = 1001 then some arraycopyName else if z = 1002 then some Lib.Math.max.name else if z = 1003 then some Lib.Math.min.name else mm_ms[z]?.map (fun M => M.1)
def mm_fdC (f : Nat) : String × String × String := match mm_cl[f / 64]? with
  | some c => (c.1, (c.2.1 (f % 64)).2.1, (c.2.1 (f % 64)).2.2.1)
  | none => ("", "", "")
theorem mm_fl_ok : mm_fl.all (fun t => decide (lw_tbl[t.2.2.2]? = some (.fieldLink (mm_N.getD t.1 "") t.2.1 (mm_fdC t.2.2.1).1 (mm_fdC t.2.2.1).2.1 (mm_fdC t.2.2.1).2.2))) = true := by decide +kernel
theorem mm_ml_ok : mm_ml.all (fun t => decide (lw_tbl[t.2.2.2]? = (mm_nme t.2.2.1).map (fun y => .methodLink (mm_N.getD t.1 "") t.2.1 y)) && decide ((mm_nme t.2.2.1).isSome)) = true := by decide +kernel
theorem mm_mn_ok : mm_mn.all (fun t => match mm_nme t.2.2 with | some y => decide (Jvm.Cond.methodLinkNest (mm_N.getD t.1 "") t.2.1 y "QualifierGate" ∈ lw_tbl) | none => false) = true := by decide +kernel
theorem mm_nc_ok : mm_nc.all (fun t => decide (lw_tbl[t.2.2.2]? = some (.classLink (mm_N.getD t.1 "") t.2.1 (mm_N.getD t.2.2.1 ""))) && decide (t.2.2.1 < 10)) = true := by decide +kernel
theorem mm_na_ok : mm_na.all (fun t => decide (lw_tbl[t.2.2.2]? = some (.classLink (mm_N.getD t.1 "") t.2.1 (mm_N.getD (mm_ac.getD t.2.2.1 0) ""))) && decide (2 ≤ t.2.2.1 ∧ t.2.2.1 < 6)) = true := by decide +kernel
theorem mm_sl_ok : mm_sl.all (fun t => decide (Jvm.Cond.fieldLinkNest (mm_N.getD t.1 "") t.2.1 "QualifierGate$Op" (if t.2.2 = 1 then "POPS" else "PUSHES") "[I" "QualifierGate" ∈ lw_tbl) && decide (t.2.2 = 1 ∨ t.2.2 = 2)) = true := by decide +kernel
theorem mm_ins_ok : (List.range 10).all (fun c => decide (Jvm.Cond.instantiable (mm_N.getD c "") (mm_fks.getD c []).length ∈ lw_tbl) && decide (Jvm.Cond.initialized (mm_N.getD c "") ∈ lw_tbl)) = true := by decide +kernel
end
section
theorem mm_dr1 {α : Type} (bs : List UInt8) (p : Nat) (b : UInt8) (r : List UInt8) (h : bs.drop p = b :: r) (k : Nat → Decoder α) : Reader.runAt ((Reader.u1 : Decoder Nat) >>= k) ⟨bs.toArray⟩ p = Reader.runAt (k b.toNat) ⟨bs.toArray⟩ (p + 1) := by
  have hp : p < bs.length := by
    rcases Nat.lt_or_ge p bs.length with q | q
    · exact q
    · rw [List.drop_eq_nil_of_le q] at h; cases h
  have hb : bs[p] = b := by
    rw [List.drop_eq_getElem_cons hp] at h
    exact (List.cons.inj h).1
  have hs : p < (ByteArray.mk bs.toArray).size := by
    show p < bs.toArray.size
    simpa using hp
  have hg : (ByteArray.mk bs.toArray)[p] = b := by
    show (bs.toArray)[p]'(by simpa using hp) = b
    simpa using hb
  unfold Reader.runAt Reader.u1
  simp only [ReaderT.run, StateT.run, Bind.bind, ReaderT.bind, StateT.bind, MonadReader.read, readThe, MonadReaderOf.read, ReaderT.read, MonadState.get, getThe, MonadStateOf.get, StateT.get, Pure.pure, Except.pure, StateT.pure, Except.bind, liftM, monadLift, MonadLift.monadLift, StateT.lift, ReaderT.pure, MonadState.set, MonadStateOf.set, StateT.set, hs, dif_pos, hg]
theorem mm_dr2 (bs : List UInt8) (p : Nat) (b : UInt8) (r : List UInt8) (h : bs.drop p = b :: r) : bs.drop (p + 1) = r := by
  rw [← List.drop_drop, h]; rfl
theorem mm_drb {α β : Type} (x : Decoder α) (k : α → Decoder β) (c : ByteArray) (p : Nat) : Reader.runAt (x >>= k) c p = Except.bind (Reader.runAt x c p) (fun z => Reader.runAt (k z.1) c z.2) := rfl
theorem mm_dru2' (bs : List UInt8) (p : Nat) (b c : UInt8) (r : List UInt8) (h : bs.drop p = b :: c :: r) : Reader.runAt (Reader.u2 : Decoder Nat) ⟨bs.toArray⟩ p = .ok (b.toNat * 256 + c.toNat, p + 1 + 1) := by
  unfold Reader.u2
  rw [mm_dr1 bs p b _ h, mm_dr1 bs (p + 1) c _ (mm_dr2 _ _ _ _ h)]
  rfl
theorem mm_dru2 {α : Type} (bs : List UInt8) (p : Nat) (b c : UInt8) (r : List UInt8) (h : bs.drop p = b :: c :: r) (k : Nat → Decoder α) : Reader.runAt ((Reader.u2 : Decoder Nat) >>= k) ⟨bs.toArray⟩ p = Reader.runAt (k (b.toNat * 256 + c.toNat)) ⟨bs.toArray⟩ (p + 1 + 1) := by
  rw [mm_drb, mm_dru2' bs p b c r h]
  rfl
theorem mm_drs1 {α : Type} (bs : List UInt8) (p : Nat) (b : UInt8) (r : List UInt8) (h : bs.drop p = b :: r) (k : Int → Decoder α) : Reader.runAt ((Reader.s1 : Decoder Int) >>= k) ⟨bs.toArray⟩ p = Reader.runAt (k (Reader.signed 8 b.toNat)) ⟨bs.toArray⟩ (p + 1) := by
  unfold Reader.s1
  rw [bind_map_left, mm_dr1 bs p b _ h]
theorem mm_drs2 {α : Type} (bs : List UInt8) (p : Nat) (b c : UInt8) (r : List UInt8) (h : bs.drop p = b :: c :: r) (k : Int → Decoder α) : Reader.runAt ((Reader.s2 : Decoder Int) >>= k) ⟨bs.toArray⟩ p = Reader.runAt (k (Reader.signed 16 (b.toNat * 256 + c.toNat))) ⟨bs.toArray⟩ (p + 1 + 1) := by
  unfold Reader.s2
  rw [bind_map_left, mm_dru2 bs p b c _ h]
theorem mm_dc_1 {bs : List UInt8} {p : Nat} {r : List UInt8} (h : bs.drop p = 1 :: r) : decode ⟨bs.toArray⟩ p = .ok (.aconst_null, 1) := by
  unfold decode Decoder.instr
  rw [mm_dr1 bs p 1 r h]
  show (Except.ok (_, p + 1 - p) : Except DecodeError (Instr × Nat)) = _
  rw [Nat.add_sub_cancel_left]
theorem mm_dc_2 {bs : List UInt8} {p : Nat} {r : List UInt8} (h : bs.drop p = 2 :: r) : decode ⟨bs.toArray⟩ p = .ok (.iconst (-1), 1) := by
  unfold decode Decoder.instr
  rw [mm_dr1 bs p 2 r h]
  show (Except.ok (_, p + 1 - p) : Except DecodeError (Instr × Nat)) = _
  rw [Nat.add_sub_cancel_left]
theorem mm_dc_3 {bs : List UInt8} {p : Nat} {r : List UInt8} (h : bs.drop p = 3 :: r) : decode ⟨bs.toArray⟩ p = .ok (.iconst (0), 1) := by
  unfold decode Decoder.instr
  rw [mm_dr1 bs p 3 r h]
  show (Except.ok (_, p + 1 - p) : Except DecodeError (Instr × Nat)) = _
  rw [Nat.add_sub_cancel_left]
theorem mm_dc_4 {bs : List UInt8} {p : Nat} {r : List UInt8} (h : bs.drop p = 4 :: r) : decode ⟨bs.toArray⟩ p = .ok (.iconst (1), 1) := by
  unfold decode Decoder.instr
  rw [mm_dr1 bs p 4 r h]
  show (Except.ok (_, p + 1 - p) : Except DecodeError (Instr × Nat)) = _
  rw [Nat.add_sub_cancel_left]
theorem mm_dc_5 {bs : List UInt8} {p : Nat} {r : List UInt8} (h : bs.drop p = 5 :: r) : decode ⟨bs.toArray⟩ p = .ok (.iconst (2), 1) := by
  unfold decode Decoder.instr
  rw [mm_dr1 bs p 5 r h]
  show (Except.ok (_, p + 1 - p) : Except DecodeError (Instr × Nat)) = _
  rw [Nat.add_sub_cancel_left]
theorem mm_dc_6 {bs : List UInt8} {p : Nat} {r : List UInt8} (h : bs.drop p = 6 :: r) : decode ⟨bs.toArray⟩ p = .ok (.iconst (3), 1) := by
  unfold decode Decoder.instr
  rw [mm_dr1 bs p 6 r h]
  show (Except.ok (_, p + 1 - p) : Except DecodeError (Instr × Nat)) = _
  rw [Nat.add_sub_cancel_left]
theorem mm_dc_7 {bs : List UInt8} {p : Nat} {r : List UInt8} (h : bs.drop p = 7 :: r) : decode ⟨bs.toArray⟩ p = .ok (.iconst (4), 1) := by
  unfold decode Decoder.instr
  rw [mm_dr1 bs p 7 r h]
  show (Except.ok (_, p + 1 - p) : Except DecodeError (Instr × Nat)) = _
  rw [Nat.add_sub_cancel_left]
theorem mm_dc_8 {bs : List UInt8} {p : Nat} {r : List UInt8} (h : bs.drop p = 8 :: r) : decode ⟨bs.toArray⟩ p = .ok (.iconst (5), 1) := by
  unfold decode Decoder.instr
  rw [mm_dr1 bs p 8 r h]
  show (Except.ok (_, p + 1 - p) : Except DecodeError (Instr × Nat)) = _
  rw [Nat.add_sub_cancel_left]
theorem mm_dc_16 {bs : List UInt8} {p : Nat} {b : UInt8} {r : List UInt8} (h : bs.drop p = 16 :: b :: r) : decode ⟨bs.toArray⟩ p = .ok (.bipush (Reader.signed 8 b.toNat), 2) := by
  unfold decode Decoder.instr
  rw [mm_dr1 bs p 16 _ h]
  show (Except.bind (Reader.runAt ((Reader.s1 : Decoder Int) >>= fun x => (pure (Instr.bipush x) : Decoder Instr) : Decoder Instr) ⟨bs.toArray⟩ (p + 1)) (fun z => Except.ok (z.1, z.2 - p)) : Except DecodeError (Instr × Nat)) = _
  rw [mm_drs1 bs (p + 1) b _ (mm_dr2 _ _ _ _ h)]
  show (Except.ok (_, p + 1 + 1 - p) : Except DecodeError (Instr × Nat)) = _
  rw [show p + 1 + 1 - p = 2 by omega]
theorem mm_dc_17 {bs : List UInt8} {p : Nat} {b c : UInt8} {r : List UInt8} (h : bs.drop p = 17 :: b :: c :: r) : decode ⟨bs.toArray⟩ p = .ok (.sipush (Reader.signed 16 (b.toNat * 256 + c.toNat)), 3) := by
  unfold decode Decoder.instr
  rw [mm_dr1 bs p 17 _ h]
  show (Except.bind (Reader.runAt ((Reader.s2 : Decoder Int) >>= fun x => (pure (Instr.sipush x) : Decoder Instr) : Decoder Instr) ⟨bs.toArray⟩ (p + 1)) (fun z => Except.ok (z.1, z.2 - p)) : Except DecodeError (Instr × Nat)) = _
  rw [mm_drs2 bs (p + 1) b c _ (mm_dr2 _ _ _ _ h)]
  show (Except.ok (_, p + 1 + 1 + 1 - p) : Except DecodeError (Instr × Nat)) = _
  rw [show p + 1 + 1 + 1 - p = 3 by omega]
theorem mm_dc_21 {bs : List UInt8} {p : Nat} {b : UInt8} {r : List UInt8} (h : bs.drop p = 21 :: b :: r) : decode ⟨bs.toArray⟩ p = .ok (.iload b.toNat, 2) := by
  unfold decode Decoder.instr
  rw [mm_dr1 bs p 21 _ h]
  show (Except.bind (Reader.runAt ((Reader.u1 : Decoder Nat) >>= fun x => (pure (Instr.iload x) : Decoder Instr) : Decoder Instr) ⟨bs.toArray⟩ (p + 1)) (fun z => Except.ok (z.1, z.2 - p)) : Except DecodeError (Instr × Nat)) = _
  rw [mm_dr1 bs (p + 1) b _ (mm_dr2 _ _ _ _ h)]
  show (Except.ok (_, p + 1 + 1 - p) : Except DecodeError (Instr × Nat)) = _
  rw [show p + 1 + 1 - p = 2 by omega]
theorem mm_dc_25 {bs : List UInt8} {p : Nat} {b : UInt8} {r : List UInt8} (h : bs.drop p = 25 :: b :: r) : decode ⟨bs.toArray⟩ p = .ok (.aload b.toNat, 2) := by
  unfold decode Decoder.instr
  rw [mm_dr1 bs p 25 _ h]
  show (Except.bind (Reader.runAt ((Reader.u1 : Decoder Nat) >>= fun x => (pure (Instr.aload x) : Decoder Instr) : Decoder Instr) ⟨bs.toArray⟩ (p + 1)) (fun z => Except.ok (z.1, z.2 - p)) : Except DecodeError (Instr × Nat)) = _
  rw [mm_dr1 bs (p + 1) b _ (mm_dr2 _ _ _ _ h)]
  show (Except.ok (_, p + 1 + 1 - p) : Except DecodeError (Instr × Nat)) = _
  rw [show p + 1 + 1 - p = 2 by omega]
theorem mm_dc_26 {bs : List UInt8} {p : Nat} {r : List UInt8} (h : bs.drop p = 26 :: r) : decode ⟨bs.toArray⟩ p = .ok (.iload_n 0, 1) := by
  unfold decode Decoder.instr
  rw [mm_dr1 bs p 26 r h]
  show (Except.ok (_, p + 1 - p) : Except DecodeError (Instr × Nat)) = _
  rw [Nat.add_sub_cancel_left]
theorem mm_dc_27 {bs : List UInt8} {p : Nat} {r : List UInt8} (h : bs.drop p = 27 :: r) : decode ⟨bs.toArray⟩ p = .ok (.iload_n 1, 1) := by
  unfold decode Decoder.instr
  rw [mm_dr1 bs p 27 r h]
  show (Except.ok (_, p + 1 - p) : Except DecodeError (Instr × Nat)) = _
  rw [Nat.add_sub_cancel_left]
theorem mm_dc_28 {bs : List UInt8} {p : Nat} {r : List UInt8} (h : bs.drop p = 28 :: r) : decode ⟨bs.toArray⟩ p = .ok (.iload_n 2, 1) := by
  unfold decode Decoder.instr
  rw [mm_dr1 bs p 28 r h]
  show (Except.ok (_, p + 1 - p) : Except DecodeError (Instr × Nat)) = _
  rw [Nat.add_sub_cancel_left]
theorem mm_dc_29 {bs : List UInt8} {p : Nat} {r : List UInt8} (h : bs.drop p = 29 :: r) : decode ⟨bs.toArray⟩ p = .ok (.iload_n 3, 1) := by
  unfold decode Decoder.instr
  rw [mm_dr1 bs p 29 r h]
  show (Except.ok (_, p + 1 - p) : Except DecodeError (Instr × Nat)) = _
  rw [Nat.add_sub_cancel_left]
theorem mm_dc_42 {bs : List UInt8} {p : Nat} {r : List UInt8} (h : bs.drop p = 42 :: r) : decode ⟨bs.toArray⟩ p = .ok (.aload_n 0, 1) := by
  unfold decode Decoder.instr
  rw [mm_dr1 bs p 42 r h]
  show (Except.ok (_, p + 1 - p) : Except DecodeError (Instr × Nat)) = _
  rw [Nat.add_sub_cancel_left]
theorem mm_dc_43 {bs : List UInt8} {p : Nat} {r : List UInt8} (h : bs.drop p = 43 :: r) : decode ⟨bs.toArray⟩ p = .ok (.aload_n 1, 1) := by
  unfold decode Decoder.instr
  rw [mm_dr1 bs p 43 r h]
  show (Except.ok (_, p + 1 - p) : Except DecodeError (Instr × Nat)) = _
  rw [Nat.add_sub_cancel_left]
theorem mm_dc_44 {bs : List UInt8} {p : Nat} {r : List UInt8} (h : bs.drop p = 44 :: r) : decode ⟨bs.toArray⟩ p = .ok (.aload_n 2, 1) := by
  unfold decode Decoder.instr
  rw [mm_dr1 bs p 44 r h]
  show (Except.ok (_, p + 1 - p) : Except DecodeError (Instr × Nat)) = _
  rw [Nat.add_sub_cancel_left]
theorem mm_dc_45 {bs : List UInt8} {p : Nat} {r : List UInt8} (h : bs.drop p = 45 :: r) : decode ⟨bs.toArray⟩ p = .ok (.aload_n 3, 1) := by
  unfold decode Decoder.instr
  rw [mm_dr1 bs p 45 r h]
  show (Except.ok (_, p + 1 - p) : Except DecodeError (Instr × Nat)) = _
  rw [Nat.add_sub_cancel_left]
theorem mm_dc_46 {bs : List UInt8} {p : Nat} {r : List UInt8} (h : bs.drop p = 46 :: r) : decode ⟨bs.toArray⟩ p = .ok (.iaload, 1) := by
  unfold decode Decoder.instr
  rw [mm_dr1 bs p 46 r h]
  show (Except.ok (_, p + 1 - p) : Except DecodeError (Instr × Nat)) = _
  rw [Nat.add_sub_cancel_left]
theorem mm_dc_50 {bs : List UInt8} {p : Nat} {r : List UInt8} (h : bs.drop p = 50 :: r) : decode ⟨bs.toArray⟩ p = .ok (.aaload, 1) := by
  unfold decode Decoder.instr
  rw [mm_dr1 bs p 50 r h]
  show (Except.ok (_, p + 1 - p) : Except DecodeError (Instr × Nat)) = _
  rw [Nat.add_sub_cancel_left]
theorem mm_dc_51 {bs : List UInt8} {p : Nat} {r : List UInt8} (h : bs.drop p = 51 :: r) : decode ⟨bs.toArray⟩ p = .ok (.baload, 1) := by
  unfold decode Decoder.instr
  rw [mm_dr1 bs p 51 r h]
  show (Except.ok (_, p + 1 - p) : Except DecodeError (Instr × Nat)) = _
  rw [Nat.add_sub_cancel_left]
theorem mm_dc_54 {bs : List UInt8} {p : Nat} {b : UInt8} {r : List UInt8} (h : bs.drop p = 54 :: b :: r) : decode ⟨bs.toArray⟩ p = .ok (.istore b.toNat, 2) := by
  unfold decode Decoder.instr
  rw [mm_dr1 bs p 54 _ h]
  show (Except.bind (Reader.runAt ((Reader.u1 : Decoder Nat) >>= fun x => (pure (Instr.istore x) : Decoder Instr) : Decoder Instr) ⟨bs.toArray⟩ (p + 1)) (fun z => Except.ok (z.1, z.2 - p)) : Except DecodeError (Instr × Nat)) = _
  rw [mm_dr1 bs (p + 1) b _ (mm_dr2 _ _ _ _ h)]
  show (Except.ok (_, p + 1 + 1 - p) : Except DecodeError (Instr × Nat)) = _
  rw [show p + 1 + 1 - p = 2 by omega]
theorem mm_dc_58 {bs : List UInt8} {p : Nat} {b : UInt8} {r : List UInt8} (h : bs.drop p = 58 :: b :: r) : decode ⟨bs.toArray⟩ p = .ok (.astore b.toNat, 2) := by
  unfold decode Decoder.instr
  rw [mm_dr1 bs p 58 _ h]
  show (Except.bind (Reader.runAt ((Reader.u1 : Decoder Nat) >>= fun x => (pure (Instr.astore x) : Decoder Instr) : Decoder Instr) ⟨bs.toArray⟩ (p + 1)) (fun z => Except.ok (z.1, z.2 - p)) : Except DecodeError (Instr × Nat)) = _
  rw [mm_dr1 bs (p + 1) b _ (mm_dr2 _ _ _ _ h)]
  show (Except.ok (_, p + 1 + 1 - p) : Except DecodeError (Instr × Nat)) = _
  rw [show p + 1 + 1 - p = 2 by omega]
theorem mm_dc_59 {bs : List UInt8} {p : Nat} {r : List UInt8} (h : bs.drop p = 59 :: r) : decode ⟨bs.toArray⟩ p = .ok (.istore_n 0, 1) := by
  unfold decode Decoder.instr
  rw [mm_dr1 bs p 59 r h]
  show (Except.ok (_, p + 1 - p) : Except DecodeError (Instr × Nat)) = _
  rw [Nat.add_sub_cancel_left]
theorem mm_dc_60 {bs : List UInt8} {p : Nat} {r : List UInt8} (h : bs.drop p = 60 :: r) : decode ⟨bs.toArray⟩ p = .ok (.istore_n 1, 1) := by
  unfold decode Decoder.instr
  rw [mm_dr1 bs p 60 r h]
  show (Except.ok (_, p + 1 - p) : Except DecodeError (Instr × Nat)) = _
  rw [Nat.add_sub_cancel_left]
theorem mm_dc_61 {bs : List UInt8} {p : Nat} {r : List UInt8} (h : bs.drop p = 61 :: r) : decode ⟨bs.toArray⟩ p = .ok (.istore_n 2, 1) := by
  unfold decode Decoder.instr
  rw [mm_dr1 bs p 61 r h]
  show (Except.ok (_, p + 1 - p) : Except DecodeError (Instr × Nat)) = _
  rw [Nat.add_sub_cancel_left]
theorem mm_dc_62 {bs : List UInt8} {p : Nat} {r : List UInt8} (h : bs.drop p = 62 :: r) : decode ⟨bs.toArray⟩ p = .ok (.istore_n 3, 1) := by
  unfold decode Decoder.instr
  rw [mm_dr1 bs p 62 r h]
  show (Except.ok (_, p + 1 - p) : Except DecodeError (Instr × Nat)) = _
  rw [Nat.add_sub_cancel_left]
theorem mm_dc_75 {bs : List UInt8} {p : Nat} {r : List UInt8} (h : bs.drop p = 75 :: r) : decode ⟨bs.toArray⟩ p = .ok (.astore_n 0, 1) := by
  unfold decode Decoder.instr
  rw [mm_dr1 bs p 75 r h]
  show (Except.ok (_, p + 1 - p) : Except DecodeError (Instr × Nat)) = _
  rw [Nat.add_sub_cancel_left]
theorem mm_dc_76 {bs : List UInt8} {p : Nat} {r : List UInt8} (h : bs.drop p = 76 :: r) : decode ⟨bs.toArray⟩ p = .ok (.astore_n 1, 1) := by
  unfold decode Decoder.instr
  rw [mm_dr1 bs p 76 r h]
  show (Except.ok (_, p + 1 - p) : Except DecodeError (Instr × Nat)) = _
  rw [Nat.add_sub_cancel_left]
theorem mm_dc_77 {bs : List UInt8} {p : Nat} {r : List UInt8} (h : bs.drop p = 77 :: r) : decode ⟨bs.toArray⟩ p = .ok (.astore_n 2, 1) := by
  unfold decode Decoder.instr
  rw [mm_dr1 bs p 77 r h]
  show (Except.ok (_, p + 1 - p) : Except DecodeError (Instr × Nat)) = _
  rw [Nat.add_sub_cancel_left]
theorem mm_dc_78 {bs : List UInt8} {p : Nat} {r : List UInt8} (h : bs.drop p = 78 :: r) : decode ⟨bs.toArray⟩ p = .ok (.astore_n 3, 1) := by
  unfold decode Decoder.instr
  rw [mm_dr1 bs p 78 r h]
  show (Except.ok (_, p + 1 - p) : Except DecodeError (Instr × Nat)) = _
  rw [Nat.add_sub_cancel_left]
theorem mm_dc_79 {bs : List UInt8} {p : Nat} {r : List UInt8} (h : bs.drop p = 79 :: r) : decode ⟨bs.toArray⟩ p = .ok (.iastore, 1) := by
  unfold decode Decoder.instr
  rw [mm_dr1 bs p 79 r h]
  show (Except.ok (_, p + 1 - p) : Except DecodeError (Instr × Nat)) = _
  rw [Nat.add_sub_cancel_left]
theorem mm_dc_83 {bs : List UInt8} {p : Nat} {r : List UInt8} (h : bs.drop p = 83 :: r) : decode ⟨bs.toArray⟩ p = .ok (.aastore, 1) := by
  unfold decode Decoder.instr
  rw [mm_dr1 bs p 83 r h]
  show (Except.ok (_, p + 1 - p) : Except DecodeError (Instr × Nat)) = _
  rw [Nat.add_sub_cancel_left]
theorem mm_dc_84 {bs : List UInt8} {p : Nat} {r : List UInt8} (h : bs.drop p = 84 :: r) : decode ⟨bs.toArray⟩ p = .ok (.bastore, 1) := by
  unfold decode Decoder.instr
  rw [mm_dr1 bs p 84 r h]
  show (Except.ok (_, p + 1 - p) : Except DecodeError (Instr × Nat)) = _
  rw [Nat.add_sub_cancel_left]
theorem mm_dc_87 {bs : List UInt8} {p : Nat} {r : List UInt8} (h : bs.drop p = 87 :: r) : decode ⟨bs.toArray⟩ p = .ok (.pop, 1) := by
  unfold decode Decoder.instr
  rw [mm_dr1 bs p 87 r h]
  show (Except.ok (_, p + 1 - p) : Except DecodeError (Instr × Nat)) = _
  rw [Nat.add_sub_cancel_left]
theorem mm_dc_89 {bs : List UInt8} {p : Nat} {r : List UInt8} (h : bs.drop p = 89 :: r) : decode ⟨bs.toArray⟩ p = .ok (.dup, 1) := by
  unfold decode Decoder.instr
  rw [mm_dr1 bs p 89 r h]
  show (Except.ok (_, p + 1 - p) : Except DecodeError (Instr × Nat)) = _
  rw [Nat.add_sub_cancel_left]
theorem mm_dc_92 {bs : List UInt8} {p : Nat} {r : List UInt8} (h : bs.drop p = 92 :: r) : decode ⟨bs.toArray⟩ p = .ok (.dup2, 1) := by
  unfold decode Decoder.instr
  rw [mm_dr1 bs p 92 r h]
  show (Except.ok (_, p + 1 - p) : Except DecodeError (Instr × Nat)) = _
  rw [Nat.add_sub_cancel_left]
theorem mm_dc_96 {bs : List UInt8} {p : Nat} {r : List UInt8} (h : bs.drop p = 96 :: r) : decode ⟨bs.toArray⟩ p = .ok (.iadd, 1) := by
  unfold decode Decoder.instr
  rw [mm_dr1 bs p 96 r h]
  show (Except.ok (_, p + 1 - p) : Except DecodeError (Instr × Nat)) = _
  rw [Nat.add_sub_cancel_left]
theorem mm_dc_100 {bs : List UInt8} {p : Nat} {r : List UInt8} (h : bs.drop p = 100 :: r) : decode ⟨bs.toArray⟩ p = .ok (.isub, 1) := by
  unfold decode Decoder.instr
  rw [mm_dr1 bs p 100 r h]
  show (Except.ok (_, p + 1 - p) : Except DecodeError (Instr × Nat)) = _
  rw [Nat.add_sub_cancel_left]
theorem mm_dc_104 {bs : List UInt8} {p : Nat} {r : List UInt8} (h : bs.drop p = 104 :: r) : decode ⟨bs.toArray⟩ p = .ok (.imul, 1) := by
  unfold decode Decoder.instr
  rw [mm_dr1 bs p 104 r h]
  show (Except.ok (_, p + 1 - p) : Except DecodeError (Instr × Nat)) = _
  rw [Nat.add_sub_cancel_left]
theorem mm_dc_120 {bs : List UInt8} {p : Nat} {r : List UInt8} (h : bs.drop p = 120 :: r) : decode ⟨bs.toArray⟩ p = .ok (.ishl, 1) := by
  unfold decode Decoder.instr
  rw [mm_dr1 bs p 120 r h]
  show (Except.ok (_, p + 1 - p) : Except DecodeError (Instr × Nat)) = _
  rw [Nat.add_sub_cancel_left]
theorem mm_dc_122 {bs : List UInt8} {p : Nat} {r : List UInt8} (h : bs.drop p = 122 :: r) : decode ⟨bs.toArray⟩ p = .ok (.ishr, 1) := by
  unfold decode Decoder.instr
  rw [mm_dr1 bs p 122 r h]
  show (Except.ok (_, p + 1 - p) : Except DecodeError (Instr × Nat)) = _
  rw [Nat.add_sub_cancel_left]
theorem mm_dc_126 {bs : List UInt8} {p : Nat} {r : List UInt8} (h : bs.drop p = 126 :: r) : decode ⟨bs.toArray⟩ p = .ok (.iand, 1) := by
  unfold decode Decoder.instr
  rw [mm_dr1 bs p 126 r h]
  show (Except.ok (_, p + 1 - p) : Except DecodeError (Instr × Nat)) = _
  rw [Nat.add_sub_cancel_left]
theorem mm_dc_128 {bs : List UInt8} {p : Nat} {r : List UInt8} (h : bs.drop p = 128 :: r) : decode ⟨bs.toArray⟩ p = .ok (.ior, 1) := by
  unfold decode Decoder.instr
  rw [mm_dr1 bs p 128 r h]
  show (Except.ok (_, p + 1 - p) : Except DecodeError (Instr × Nat)) = _
  rw [Nat.add_sub_cancel_left]
theorem mm_dc_130 {bs : List UInt8} {p : Nat} {r : List UInt8} (h : bs.drop p = 130 :: r) : decode ⟨bs.toArray⟩ p = .ok (.ixor, 1) := by
  unfold decode Decoder.instr
  rw [mm_dr1 bs p 130 r h]
  show (Except.ok (_, p + 1 - p) : Except DecodeError (Instr × Nat)) = _
  rw [Nat.add_sub_cancel_left]
theorem mm_dc_132 {bs : List UInt8} {p : Nat} {b c : UInt8} {r : List UInt8} (h : bs.drop p = 132 :: b :: c :: r) : decode ⟨bs.toArray⟩ p = .ok (.iinc b.toNat (Reader.signed 8 c.toNat), 3) := by
  unfold decode Decoder.instr
  rw [mm_dr1 bs p 132 _ h]
  show (Except.bind (Reader.runAt ((Reader.u1 : Decoder Nat) >>= fun x => ((Reader.s1 : Decoder Int) >>= fun y => (pure (Instr.iinc x y) : Decoder Instr)) : Decoder Instr) ⟨bs.toArray⟩ (p + 1)) (fun z => Except.ok (z.1, z.2 - p)) : Except DecodeError (Instr × Nat)) = _
  rw [mm_dr1 bs (p + 1) b _ (mm_dr2 _ _ _ _ h), mm_drs1 bs (p + 1 + 1) c _ (mm_dr2 _ _ _ _ (mm_dr2 _ _ _ _ h))]
  show (Except.ok (_, p + 1 + 1 + 1 - p) : Except DecodeError (Instr × Nat)) = _
  rw [show p + 1 + 1 + 1 - p = 3 by omega]
theorem mm_dc_153 {bs : List UInt8} {p : Nat} {b c : UInt8} {r : List UInt8} (h : bs.drop p = 153 :: b :: c :: r) : decode ⟨bs.toArray⟩ p = .ok (.ifCond .eq (Reader.signed 16 (b.toNat * 256 + c.toNat)), 3) := by
  unfold decode Decoder.instr
  rw [mm_dr1 bs p 153 _ h]
  show (Except.bind (Reader.runAt ((Reader.s2 : Decoder Int) >>= fun x => (pure (Instr.ifCond .eq x) : Decoder Instr) : Decoder Instr) ⟨bs.toArray⟩ (p + 1)) (fun z => Except.ok (z.1, z.2 - p)) : Except DecodeError (Instr × Nat)) = _
  rw [mm_drs2 bs (p + 1) b c _ (mm_dr2 _ _ _ _ h)]
  show (Except.ok (_, p + 1 + 1 + 1 - p) : Except DecodeError (Instr × Nat)) = _
  rw [show p + 1 + 1 + 1 - p = 3 by omega]
theorem mm_dc_154 {bs : List UInt8} {p : Nat} {b c : UInt8} {r : List UInt8} (h : bs.drop p = 154 :: b :: c :: r) : decode ⟨bs.toArray⟩ p = .ok (.ifCond .ne (Reader.signed 16 (b.toNat * 256 + c.toNat)), 3) := by
  unfold decode Decoder.instr
  rw [mm_dr1 bs p 154 _ h]
  show (Except.bind (Reader.runAt ((Reader.s2 : Decoder Int) >>= fun x => (pure (Instr.ifCond .ne x) : Decoder Instr) : Decoder Instr) ⟨bs.toArray⟩ (p + 1)) (fun z => Except.ok (z.1, z.2 - p)) : Except DecodeError (Instr × Nat)) = _
  rw [mm_drs2 bs (p + 1) b c _ (mm_dr2 _ _ _ _ h)]
  show (Except.ok (_, p + 1 + 1 + 1 - p) : Except DecodeError (Instr × Nat)) = _
  rw [show p + 1 + 1 + 1 - p = 3 by omega]
theorem mm_dc_155 {bs : List UInt8} {p : Nat} {b c : UInt8} {r : List UInt8} (h : bs.drop p = 155 :: b :: c :: r) : decode ⟨bs.toArray⟩ p = .ok (.ifCond .lt (Reader.signed 16 (b.toNat * 256 + c.toNat)), 3) := by
  unfold decode Decoder.instr
  rw [mm_dr1 bs p 155 _ h]
  show (Except.bind (Reader.runAt ((Reader.s2 : Decoder Int) >>= fun x => (pure (Instr.ifCond .lt x) : Decoder Instr) : Decoder Instr) ⟨bs.toArray⟩ (p + 1)) (fun z => Except.ok (z.1, z.2 - p)) : Except DecodeError (Instr × Nat)) = _
  rw [mm_drs2 bs (p + 1) b c _ (mm_dr2 _ _ _ _ h)]
  show (Except.ok (_, p + 1 + 1 + 1 - p) : Except DecodeError (Instr × Nat)) = _
  rw [show p + 1 + 1 + 1 - p = 3 by omega]
theorem mm_dc_156 {bs : List UInt8} {p : Nat} {b c : UInt8} {r : List UInt8} (h : bs.drop p = 156 :: b :: c :: r) : decode ⟨bs.toArray⟩ p = .ok (.ifCond .ge (Reader.signed 16 (b.toNat * 256 + c.toNat)), 3) := by
  unfold decode Decoder.instr
  rw [mm_dr1 bs p 156 _ h]
  show (Except.bind (Reader.runAt ((Reader.s2 : Decoder Int) >>= fun x => (pure (Instr.ifCond .ge x) : Decoder Instr) : Decoder Instr) ⟨bs.toArray⟩ (p + 1)) (fun z => Except.ok (z.1, z.2 - p)) : Except DecodeError (Instr × Nat)) = _
  rw [mm_drs2 bs (p + 1) b c _ (mm_dr2 _ _ _ _ h)]
  show (Except.ok (_, p + 1 + 1 + 1 - p) : Except DecodeError (Instr × Nat)) = _
  rw [show p + 1 + 1 + 1 - p = 3 by omega]
theorem mm_dc_157 {bs : List UInt8} {p : Nat} {b c : UInt8} {r : List UInt8} (h : bs.drop p = 157 :: b :: c :: r) : decode ⟨bs.toArray⟩ p = .ok (.ifCond .gt (Reader.signed 16 (b.toNat * 256 + c.toNat)), 3) := by
  unfold decode Decoder.instr
  rw [mm_dr1 bs p 157 _ h]
  show (Except.bind (Reader.runAt ((Reader.s2 : Decoder Int) >>= fun x => (pure (Instr.ifCond .gt x) : Decoder Instr) : Decoder Instr) ⟨bs.toArray⟩ (p + 1)) (fun z => Except.ok (z.1, z.2 - p)) : Except DecodeError (Instr × Nat)) = _
  rw [mm_drs2 bs (p + 1) b c _ (mm_dr2 _ _ _ _ h)]
  show (Except.ok (_, p + 1 + 1 + 1 - p) : Except DecodeError (Instr × Nat)) = _
  rw [show p + 1 + 1 + 1 - p = 3 by omega]
theorem mm_dc_158 {bs : List UInt8} {p : Nat} {b c : UInt8} {r : List UInt8} (h : bs.drop p = 158 :: b :: c :: r) : decode ⟨bs.toArray⟩ p = .ok (.ifCond .le (Reader.signed 16 (b.toNat * 256 + c.toNat)), 3) := by
  unfold decode Decoder.instr
  rw [mm_dr1 bs p 158 _ h]
  show (Except.bind (Reader.runAt ((Reader.s2 : Decoder Int) >>= fun x => (pure (Instr.ifCond .le x) : Decoder Instr) : Decoder Instr) ⟨bs.toArray⟩ (p + 1)) (fun z => Except.ok (z.1, z.2 - p)) : Except DecodeError (Instr × Nat)) = _
  rw [mm_drs2 bs (p + 1) b c _ (mm_dr2 _ _ _ _ h)]
  show (Except.ok (_, p + 1 + 1 + 1 - p) : Except DecodeError (Instr × Nat)) = _
  rw [show p + 1 + 1 + 1 - p = 3 by omega]
theorem mm_dc_159 {bs : List UInt8} {p : Nat} {b c : UInt8} {r : List UInt8} (h : bs.drop p = 159 :: b :: c :: r) : decode ⟨bs.toArray⟩ p = .ok (.if_icmp .eq (Reader.signed 16 (b.toNat * 256 + c.toNat)), 3) := by
  unfold decode Decoder.instr
  rw [mm_dr1 bs p 159 _ h]
  show (Except.bind (Reader.runAt ((Reader.s2 : Decoder Int) >>= fun x => (pure (Instr.if_icmp .eq x) : Decoder Instr) : Decoder Instr) ⟨bs.toArray⟩ (p + 1)) (fun z => Except.ok (z.1, z.2 - p)) : Except DecodeError (Instr × Nat)) = _
  rw [mm_drs2 bs (p + 1) b c _ (mm_dr2 _ _ _ _ h)]
  show (Except.ok (_, p + 1 + 1 + 1 - p) : Except DecodeError (Instr × Nat)) = _
  rw [show p + 1 + 1 + 1 - p = 3 by omega]
theorem mm_dc_160 {bs : List UInt8} {p : Nat} {b c : UInt8} {r : List UInt8} (h : bs.drop p = 160 :: b :: c :: r) : decode ⟨bs.toArray⟩ p = .ok (.if_icmp .ne (Reader.signed 16 (b.toNat * 256 + c.toNat)), 3) := by
  unfold decode Decoder.instr
  rw [mm_dr1 bs p 160 _ h]
  show (Except.bind (Reader.runAt ((Reader.s2 : Decoder Int) >>= fun x => (pure (Instr.if_icmp .ne x) : Decoder Instr) : Decoder Instr) ⟨bs.toArray⟩ (p + 1)) (fun z => Except.ok (z.1, z.2 - p)) : Except DecodeError (Instr × Nat)) = _
  rw [mm_drs2 bs (p + 1) b c _ (mm_dr2 _ _ _ _ h)]
  show (Except.ok (_, p + 1 + 1 + 1 - p) : Except DecodeError (Instr × Nat)) = _
  rw [show p + 1 + 1 + 1 - p = 3 by omega]
theorem mm_dc_161 {bs : List UInt8} {p : Nat} {b c : UInt8} {r : List UInt8} (h : bs.drop p = 161 :: b :: c :: r) : decode ⟨bs.toArray⟩ p = .ok (.if_icmp .lt (Reader.signed 16 (b.toNat * 256 + c.toNat)), 3) := by
  unfold decode Decoder.instr
  rw [mm_dr1 bs p 161 _ h]
  show (Except.bind (Reader.runAt ((Reader.s2 : Decoder Int) >>= fun x => (pure (Instr.if_icmp .lt x) : Decoder Instr) : Decoder Instr) ⟨bs.toArray⟩ (p + 1)) (fun z => Except.ok (z.1, z.2 - p)) : Except DecodeError (Instr × Nat)) = _
  rw [mm_drs2 bs (p + 1) b c _ (mm_dr2 _ _ _ _ h)]
  show (Except.ok (_, p + 1 + 1 + 1 - p) : Except DecodeError (Instr × Nat)) = _
  rw [show p + 1 + 1 + 1 - p = 3 by omega]
theorem mm_dc_162 {bs : List UInt8} {p : Nat} {b c : UInt8} {r : List UInt8} (h : bs.drop p = 162 :: b :: c :: r) : decode ⟨bs.toArray⟩ p = .ok (.if_icmp .ge (Reader.signed 16 (b.toNat * 256 + c.toNat)), 3) := by
  unfold decode Decoder.instr
  rw [mm_dr1 bs p 162 _ h]
  show (Except.bind (Reader.runAt ((Reader.s2 : Decoder Int) >>= fun x => (pure (Instr.if_icmp .ge x) : Decoder Instr) : Decoder Instr) ⟨bs.toArray⟩ (p + 1)) (fun z => Except.ok (z.1, z.2 - p)) : Except DecodeError (Instr × Nat)) = _
  rw [mm_drs2 bs (p + 1) b c _ (mm_dr2 _ _ _ _ h)]
  show (Except.ok (_, p + 1 + 1 + 1 - p) : Except DecodeError (Instr × Nat)) = _
  rw [show p + 1 + 1 + 1 - p = 3 by omega]
theorem mm_dc_163 {bs : List UInt8} {p : Nat} {b c : UInt8} {r : List UInt8} (h : bs.drop p = 163 :: b :: c :: r) : decode ⟨bs.toArray⟩ p = .ok (.if_icmp .gt (Reader.signed 16 (b.toNat * 256 + c.toNat)), 3) := by
  unfold decode Decoder.instr
  rw [mm_dr1 bs p 163 _ h]
  show (Except.bind (Reader.runAt ((Reader.s2 : Decoder Int) >>= fun x => (pure (Instr.if_icmp .gt x) : Decoder Instr) : Decoder Instr) ⟨bs.toArray⟩ (p + 1)) (fun z => Except.ok (z.1, z.2 - p)) : Except DecodeError (Instr × Nat)) = _
  rw [mm_drs2 bs (p + 1) b c _ (mm_dr2 _ _ _ _ h)]
  show (Except.ok (_, p + 1 + 1 + 1 - p) : Except DecodeError (Instr × Nat)) = _
  rw [show p + 1 + 1 + 1 - p = 3 by omega]
theorem mm_dc_164 {bs : List UInt8} {p : Nat} {b c : UInt8} {r : List UInt8} (h : bs.drop p = 164 :: b :: c :: r) : decode ⟨bs.toArray⟩ p = .ok (.if_icmp .le (Reader.signed 16 (b.toNat * 256 + c.toNat)), 3) := by
  unfold decode Decoder.instr
  rw [mm_dr1 bs p 164 _ h]
  show (Except.bind (Reader.runAt ((Reader.s2 : Decoder Int) >>= fun x => (pure (Instr.if_icmp .le x) : Decoder Instr) : Decoder Instr) ⟨bs.toArray⟩ (p + 1)) (fun z => Except.ok (z.1, z.2 - p)) : Except DecodeError (Instr × Nat)) = _
  rw [mm_drs2 bs (p + 1) b c _ (mm_dr2 _ _ _ _ h)]
  show (Except.ok (_, p + 1 + 1 + 1 - p) : Except DecodeError (Instr × Nat)) = _
  rw [show p + 1 + 1 + 1 - p = 3 by omega]
theorem mm_dc_167 {bs : List UInt8} {p : Nat} {b c : UInt8} {r : List UInt8} (h : bs.drop p = 167 :: b :: c :: r) : decode ⟨bs.toArray⟩ p = .ok (.goto (Reader.signed 16 (b.toNat * 256 + c.toNat)), 3) := by
  unfold decode Decoder.instr
  rw [mm_dr1 bs p 167 _ h]
  show (Except.bind (Reader.runAt ((Reader.s2 : Decoder Int) >>= fun x => (pure (Instr.goto x) : Decoder Instr) : Decoder Instr) ⟨bs.toArray⟩ (p + 1)) (fun z => Except.ok (z.1, z.2 - p)) : Except DecodeError (Instr × Nat)) = _
  rw [mm_drs2 bs (p + 1) b c _ (mm_dr2 _ _ _ _ h)]
  show (Except.ok (_, p + 1 + 1 + 1 - p) : Except DecodeError (Instr × Nat)) = _
  rw [show p + 1 + 1 + 1 - p = 3 by omega]
theorem mm_dc_172 {bs : List UInt8} {p : Nat} {r : List UInt8} (h : bs.drop p = 172 :: r) : decode ⟨bs.toArray⟩ p = .ok (.ireturn, 1) := by
  unfold decode Decoder.instr
  rw [mm_dr1 bs p 172 r h]
  show (Except.ok (_, p + 1 - p) : Except DecodeError (Instr × Nat)) = _
  rw [Nat.add_sub_cancel_left]
theorem mm_dc_176 {bs : List UInt8} {p : Nat} {r : List UInt8} (h : bs.drop p = 176 :: r) : decode ⟨bs.toArray⟩ p = .ok (.areturn, 1) := by
  unfold decode Decoder.instr
  rw [mm_dr1 bs p 176 r h]
  show (Except.ok (_, p + 1 - p) : Except DecodeError (Instr × Nat)) = _
  rw [Nat.add_sub_cancel_left]
theorem mm_dc_177 {bs : List UInt8} {p : Nat} {r : List UInt8} (h : bs.drop p = 177 :: r) : decode ⟨bs.toArray⟩ p = .ok (.return_, 1) := by
  unfold decode Decoder.instr
  rw [mm_dr1 bs p 177 r h]
  show (Except.ok (_, p + 1 - p) : Except DecodeError (Instr × Nat)) = _
  rw [Nat.add_sub_cancel_left]
theorem mm_dc_178 {bs : List UInt8} {p : Nat} {b c : UInt8} {r : List UInt8} (h : bs.drop p = 178 :: b :: c :: r) : decode ⟨bs.toArray⟩ p = .ok (.getstatic (b.toNat * 256 + c.toNat), 3) := by
  unfold decode Decoder.instr
  rw [mm_dr1 bs p 178 _ h]
  show (Except.bind (Reader.runAt ((Reader.u2 : Decoder Nat) >>= fun x => (pure (Instr.getstatic x) : Decoder Instr) : Decoder Instr) ⟨bs.toArray⟩ (p + 1)) (fun z => Except.ok (z.1, z.2 - p)) : Except DecodeError (Instr × Nat)) = _
  rw [mm_dru2 bs (p + 1) b c _ (mm_dr2 _ _ _ _ h)]
  show (Except.ok (_, p + 1 + 1 + 1 - p) : Except DecodeError (Instr × Nat)) = _
  rw [show p + 1 + 1 + 1 - p = 3 by omega]
theorem mm_dc_180 {bs : List UInt8} {p : Nat} {b c : UInt8} {r : List UInt8} (h : bs.drop p = 180 :: b :: c :: r) : decode ⟨bs.toArray⟩ p = .ok (.getfield (b.toNat * 256 + c.toNat), 3) := by
  unfold decode Decoder.instr
  rw [mm_dr1 bs p 180 _ h]
  show (Except.bind (Reader.runAt ((Reader.u2 : Decoder Nat) >>= fun x => (pure (Instr.getfield x) : Decoder Instr) : Decoder Instr) ⟨bs.toArray⟩ (p + 1)) (fun z => Except.ok (z.1, z.2 - p)) : Except DecodeError (Instr × Nat)) = _
  rw [mm_dru2 bs (p + 1) b c _ (mm_dr2 _ _ _ _ h)]
  show (Except.ok (_, p + 1 + 1 + 1 - p) : Except DecodeError (Instr × Nat)) = _
  rw [show p + 1 + 1 + 1 - p = 3 by omega]
theorem mm_dc_181 {bs : List UInt8} {p : Nat} {b c : UInt8} {r : List UInt8} (h : bs.drop p = 181 :: b :: c :: r) : decode ⟨bs.toArray⟩ p = .ok (.putfield (b.toNat * 256 + c.toNat), 3) := by
  unfold decode Decoder.instr
  rw [mm_dr1 bs p 181 _ h]
  show (Except.bind (Reader.runAt ((Reader.u2 : Decoder Nat) >>= fun x => (pure (Instr.putfield x) : Decoder Instr) : Decoder Instr) ⟨bs.toArray⟩ (p + 1)) (fun z => Except.ok (z.1, z.2 - p)) : Except DecodeError (Instr × Nat)) = _
  rw [mm_dru2 bs (p + 1) b c _ (mm_dr2 _ _ _ _ h)]
  show (Except.ok (_, p + 1 + 1 + 1 - p) : Except DecodeError (Instr × Nat)) = _
  rw [show p + 1 + 1 + 1 - p = 3 by omega]
theorem mm_dc_182 {bs : List UInt8} {p : Nat} {b c : UInt8} {r : List UInt8} (h : bs.drop p = 182 :: b :: c :: r) : decode ⟨bs.toArray⟩ p = .ok (.invokevirtual (b.toNat * 256 + c.toNat), 3) := by
  unfold decode Decoder.instr
  rw [mm_dr1 bs p 182 _ h]
  show (Except.bind (Reader.runAt ((Reader.u2 : Decoder Nat) >>= fun x => (pure (Instr.invokevirtual x) : Decoder Instr) : Decoder Instr) ⟨bs.toArray⟩ (p + 1)) (fun z => Except.ok (z.1, z.2 - p)) : Except DecodeError (Instr × Nat)) = _
  rw [mm_dru2 bs (p + 1) b c _ (mm_dr2 _ _ _ _ h)]
  show (Except.ok (_, p + 1 + 1 + 1 - p) : Except DecodeError (Instr × Nat)) = _
  rw [show p + 1 + 1 + 1 - p = 3 by omega]
theorem mm_dc_183 {bs : List UInt8} {p : Nat} {b c : UInt8} {r : List UInt8} (h : bs.drop p = 183 :: b :: c :: r) : decode ⟨bs.toArray⟩ p = .ok (.invokespecial (b.toNat * 256 + c.toNat), 3) := by
  unfold decode Decoder.instr
  rw [mm_dr1 bs p 183 _ h]
  show (Except.bind (Reader.runAt ((Reader.u2 : Decoder Nat) >>= fun x => (pure (Instr.invokespecial x) : Decoder Instr) : Decoder Instr) ⟨bs.toArray⟩ (p + 1)) (fun z => Except.ok (z.1, z.2 - p)) : Except DecodeError (Instr × Nat)) = _
  rw [mm_dru2 bs (p + 1) b c _ (mm_dr2 _ _ _ _ h)]
  show (Except.ok (_, p + 1 + 1 + 1 - p) : Except DecodeError (Instr × Nat)) = _
  rw [show p + 1 + 1 + 1 - p = 3 by omega]
theorem mm_dc_184 {bs : List UInt8} {p : Nat} {b c : UInt8} {r : List UInt8} (h : bs.drop p = 184 :: b :: c :: r) : decode ⟨bs.toArray⟩ p = .ok (.invokestatic (b.toNat * 256 + c.toNat), 3) := by
  unfold decode Decoder.instr
  rw [mm_dr1 bs p 184 _ h]
  show (Except.bind (Reader.runAt ((Reader.u2 : Decoder Nat) >>= fun x => (pure (Instr.invokestatic x) : Decoder Instr) : Decoder Instr) ⟨bs.toArray⟩ (p + 1)) (fun z => Except.ok (z.1, z.2 - p)) : Except DecodeError (Instr × Nat)) = _
  rw [mm_dru2 bs (p + 1) b c _ (mm_dr2 _ _ _ _ h)]
  show (Except.ok (_, p + 1 + 1 + 1 - p) : Except DecodeError (Instr × Nat)) = _
  rw [show p + 1 + 1 + 1 - p = 3 by omega]
theorem mm_dc_187 {bs : List UInt8} {p : Nat} {b c : UInt8} {r : List UInt8} (h : bs.drop p = 187 :: b :: c :: r) : decode ⟨bs.toArray⟩ p = .ok (.new (b.toNat * 256 + c.toNat), 3) := by
  unfold decode Decoder.instr
  rw [mm_dr1 bs p 187 _ h]
  show (Except.bind (Reader.runAt ((Reader.u2 : Decoder Nat) >>= fun x => (pure (Instr.new x) : Decoder Instr) : Decoder Instr) ⟨bs.toArray⟩ (p + 1)) (fun z => Except.ok (z.1, z.2 - p)) : Except DecodeError (Instr × Nat)) = _
  rw [mm_dru2 bs (p + 1) b c _ (mm_dr2 _ _ _ _ h)]
  show (Except.ok (_, p + 1 + 1 + 1 - p) : Except DecodeError (Instr × Nat)) = _
  rw [show p + 1 + 1 + 1 - p = 3 by omega]
theorem mm_dc_188_4 {bs : List UInt8} {p : Nat} {r : List UInt8} (h : bs.drop p = 188 :: 4 :: r) : decode ⟨bs.toArray⟩ p = .ok (.newarray .boolean, 2) := by
  unfold decode Decoder.instr
  rw [mm_dr1 bs p 188 _ h]
  show (Except.bind (Reader.runAt (Decoder.newarray p : Decoder Instr) ⟨bs.toArray⟩ (p + 1)) (fun z => Except.ok (z.1, z.2 - p)) : Except DecodeError (Instr × Nat)) = _
  unfold Decoder.newarray
  rw [mm_dr1 bs (p + 1) 4 _ (mm_dr2 _ _ _ _ h)]
  show (Except.ok (_, p + 1 + 1 - p) : Except DecodeError (Instr × Nat)) = _
  rw [show p + 1 + 1 - p = 2 by omega]
theorem mm_dc_188_10 {bs : List UInt8} {p : Nat} {r : List UInt8} (h : bs.drop p = 188 :: 10 :: r) : decode ⟨bs.toArray⟩ p = .ok (.newarray .int, 2) := by
  unfold decode Decoder.instr
  rw [mm_dr1 bs p 188 _ h]
  show (Except.bind (Reader.runAt (Decoder.newarray p : Decoder Instr) ⟨bs.toArray⟩ (p + 1)) (fun z => Except.ok (z.1, z.2 - p)) : Except DecodeError (Instr × Nat)) = _
  unfold Decoder.newarray
  rw [mm_dr1 bs (p + 1) 10 _ (mm_dr2 _ _ _ _ h)]
  show (Except.ok (_, p + 1 + 1 - p) : Except DecodeError (Instr × Nat)) = _
  rw [show p + 1 + 1 - p = 2 by omega]
theorem mm_dc_189 {bs : List UInt8} {p : Nat} {b c : UInt8} {r : List UInt8} (h : bs.drop p = 189 :: b :: c :: r) : decode ⟨bs.toArray⟩ p = .ok (.anewarray (b.toNat * 256 + c.toNat), 3) := by
  unfold decode Decoder.instr
  rw [mm_dr1 bs p 189 _ h]
  show (Except.bind (Reader.runAt ((Reader.u2 : Decoder Nat) >>= fun x => (pure (Instr.anewarray x) : Decoder Instr) : Decoder Instr) ⟨bs.toArray⟩ (p + 1)) (fun z => Except.ok (z.1, z.2 - p)) : Except DecodeError (Instr × Nat)) = _
  rw [mm_dru2 bs (p + 1) b c _ (mm_dr2 _ _ _ _ h)]
  show (Except.ok (_, p + 1 + 1 + 1 - p) : Except DecodeError (Instr × Nat)) = _
  rw [show p + 1 + 1 + 1 - p = 3 by omega]
theorem mm_dc_190 {bs : List UInt8} {p : Nat} {r : List UInt8} (h : bs.drop p = 190 :: r) : decode ⟨bs.toArray⟩ p = .ok (.arraylength, 1) := by
  unfold decode Decoder.instr
  rw [mm_dr1 bs p 190 r h]
  show (Except.ok (_, p + 1 - p) : Except DecodeError (Instr × Nat)) = _
  rw [Nat.add_sub_cancel_left]
theorem mm_dc_198 {bs : List UInt8} {p : Nat} {b c : UInt8} {r : List UInt8} (h : bs.drop p = 198 :: b :: c :: r) : decode ⟨bs.toArray⟩ p = .ok (.ifnull (Reader.signed 16 (b.toNat * 256 + c.toNat)), 3) := by
  unfold decode Decoder.instr
  rw [mm_dr1 bs p 198 _ h]
  show (Except.bind (Reader.runAt ((Reader.s2 : Decoder Int) >>= fun x => (pure (Instr.ifnull x) : Decoder Instr) : Decoder Instr) ⟨bs.toArray⟩ (p + 1)) (fun z => Except.ok (z.1, z.2 - p)) : Except DecodeError (Instr × Nat)) = _
  rw [mm_drs2 bs (p + 1) b c _ (mm_dr2 _ _ _ _ h)]
  show (Except.ok (_, p + 1 + 1 + 1 - p) : Except DecodeError (Instr × Nat)) = _
  rw [show p + 1 + 1 + 1 - p = 3 by omega]
theorem mm_dc_199 {bs : List UInt8} {p : Nat} {b c : UInt8} {r : List UInt8} (h : bs.drop p = 199 :: b :: c :: r) : decode ⟨bs.toArray⟩ p = .ok (.ifnonnull (Reader.signed 16 (b.toNat * 256 + c.toNat)), 3) := by
  unfold decode Decoder.instr
  rw [mm_dr1 bs p 199 _ h]
  show (Except.bind (Reader.runAt ((Reader.s2 : Decoder Int) >>= fun x => (pure (Instr.ifnonnull x) : Decoder Instr) : Decoder Instr) ⟨bs.toArray⟩ (p + 1)) (fun z => Except.ok (z.1, z.2 - p)) : Except DecodeError (Instr × Nat)) = _
  rw [mm_drs2 bs (p + 1) b c _ (mm_dr2 _ _ _ _ h)]
  show (Except.ok (_, p + 1 + 1 + 1 - p) : Except DecodeError (Instr × Nat)) = _
  rw [show p + 1 + 1 + 1 - p = 3 by omega]
/-- the instruction at the head of a list of bytes; none for switches and what the program has not -/
def mm_gn (r : List UInt8) : Option (Instr × Nat) := match r with
  | b :: _ => if b = 4 then some (.newarray .boolean, 2) else if b = 10 then some (.newarray .int, 2) else none
  | _ => none
def mm_g1 (r : List UInt8) (f : UInt8 → Instr × Nat) : Option (Instr × Nat) := match r with
  | b :: _ => some (f b)
  | _ => none
def mm_g2 (r : List UInt8) (f : UInt8 → UInt8 → Instr × Nat) : Option (Instr × Nat) := match r with
  | b :: c :: _ => some (f b c)
  | _ => none
theorem mm_g1_ok {r : List UInt8} {f : UInt8 → Instr × Nat} {x : Instr × Nat} (h : mm_g1 r f = some x) : ∃ b r', r = b :: r' ∧ x = f b := by
  cases r with
  | nil => cases h
  | cons b r' => exact ⟨b, r', rfl, (Option.some.inj h).symm⟩
theorem mm_g2_ok {r : List UInt8} {f : UInt8 → UInt8 → Instr × Nat} {x : Instr × Nat} (h : mm_g2 r f = some x) : ∃ b c r', r = b :: c :: r' ∧ x = f b c := by
  cases r with
  | nil => cases h
  | cons b r =>
    cases r with
    | nil => cases h
    | cons c r' => exact ⟨b, c, r', rfl, (Option.some.inj h).symm⟩
theorem mm_if {α : Type} {p : Prop} [Decidable p] {A B : Option α} {x : α} (h : (if p then A else B) = some x) : (p ∧ A = some x) ∨ (¬ p ∧ B = some x) := by
  by_cases q : p
  · rw [if_pos q] at h; exact Or.inl ⟨q, h⟩
  · rw [if_neg q] at h; exact Or.inr ⟨q, h⟩
theorem mm_gn_ok {bs : List UInt8} {p : Nat} {r : List UInt8} {x : Instr × Nat} (hl : bs.drop p = 188 :: r) (h : mm_gn r = some x) : decode ⟨bs.toArray⟩ p = .ok x := by
  cases r with
  | nil => cases h
  | cons b r =>
    unfold mm_gn at h
    dsimp only at h
    rcases mm_if h with ⟨rfl, h⟩ | ⟨-, h⟩
    · cases h; exact mm_dc_188_4 hl
    rcases mm_if h with ⟨rfl, h⟩ | ⟨-, h⟩
    · cases h; exact mm_dc_188_10 hl
    · cases h
def mm_dl (l : List UInt8) : Option (Instr × Nat) := match l with
  | [] => none
  | o :: r =>
    if o = 42 then some (.aload_n 0, 1) else
    if o = 180 then mm_g2 r (fun b c => (.getfield (b.toNat * 256 + c.toNat), 3)) else
    if o = 27 then some (.iload_n 1, 1) else
    if o = 182 then mm_g2 r (fun b c => (.invokevirtual (b.toNat * 256 + c.toNat), 3)) else
    if o = 46 then some (.iaload, 1) else
    if o = 172 then some (.ireturn, 1) else
    if o = 3 then some (.iconst (0), 1) else
    if o = 28 then some (.iload_n 2, 1) else
    if o = 16 then mm_g1 r (fun b => (.bipush (Reader.signed 8 b.toNat), 2)) else
    if o = 29 then some (.iload_n 3, 1) else
    if o = 4 then some (.iconst (1), 1) else
    if o = 167 then mm_g2 r (fun b c => (.goto (Reader.signed 16 (b.toNat * 256 + c.toNat)), 3)) else
    if o = 21 then mm_g1 r (fun b => (.iload b.toNat, 2)) else
    if o = 181 then mm_g2 r (fun b c => (.putfield (b.toNat * 256 + c.toNat), 3)) else
    if o = 96 then some (.iadd, 1) else
    if o = 43 then some (.aload_n 1, 1) else
    if o = 153 then mm_g2 r (fun b c => (.ifCond .eq (Reader.signed 16 (b.toNat * 256 + c.toNat)), 3)) else
    if o = 2 then some (.iconst (-1), 1) else
    if o = 184 then mm_g2 r (fun b c => (.invokestatic (b.toNat * 256 + c.toNat), 3)) else
    if o = 160 then mm_g2 r (fun b c => (.if_icmp .ne (Reader.signed 16 (b.toNat * 256 + c.toNat)), 3)) else
    if o = 154 then mm_g2 r (fun b c => (.ifCond .ne (Reader.signed 16 (b.toNat * 256 + c.toNat)), 3)) else
    if o = 79 then some (.iastore, 1) else
    if o = 177 then some (.return_, 1) else
    if o = 54 then mm_g1 r (fun b => (.istore b.toNat, 2)) else
    if o = 159 then mm_g2 r (fun b c => (.if_icmp .eq (Reader.signed 16 (b.toNat * 256 + c.toNat)), 3)) else
    if o = 6 then some (.iconst (3), 1) else
    if o = 7 then some (.iconst (4), 1) else
    if o = 104 then some (.imul, 1) else
    if o = 100 then some (.isub, 1) else
    if o = 162 then mm_g2 r (fun b c => (.if_icmp .ge (Reader.signed 16 (b.toNat * 256 + c.toNat)), 3)) else
    if o = 89 then some (.dup, 1) else
    if o = 62 then some (.istore_n 3, 1) else
    if o = 5 then some (.iconst (2), 1) else
    if o = 44 then some (.aload_n 2, 1) else
    if o = 132 then mm_g2 r (fun b c => (.iinc b.toNat (Reader.signed 8 c.toNat), 3)) else
    if o = 51 then some (.baload, 1) else
    if o = 50 then some (.aaload, 1) else
    if o = 26 then some (.iload_n 0, 1) else
    if o = 61 then some (.istore_n 2, 1) else
    if o = 45 then some (.aload_n 3, 1) else
    if o = 1 then some (.aconst_null, 1) else
    if o = 8 then some (.iconst (5), 1) else
    if o = 17 then mm_g2 r (fun b c => (.sipush (Reader.signed 16 (b.toNat * 256 + c.toNat)), 3)) else
    if o = 25 then mm_g1 r (fun b => (.aload b.toNat, 2)) else
    if o = 58 then mm_g1 r (fun b => (.astore b.toNat, 2)) else
    if o = 59 then some (.istore_n 0, 1) else
    if o = 60 then some (.istore_n 1, 1) else
    if o = 75 then some (.astore_n 0, 1) else
    if o = 76 then some (.astore_n 1, 1) else
    if o = 77 then some (.astore_n 2, 1) else
    if o = 78 then some (.astore_n 3, 1) else
    if o = 83 then some (.aastore, 1) else
    if o = 84 then some (.bastore, 1) else
    if o = 87 then some (.pop, 1) else
    if o = 92 then some (.dup2, 1) else
    if o = 120 then some (.ishl, 1) else
    if o = 122 then some (.ishr, 1) else
    if o = 126 then some (.iand, 1) else
    if o = 128 then some (.ior, 1) else
    if o = 130 then some (.ixor, 1) else
    if o = 155 then mm_g2 r (fun b c => (.ifCond .lt (Reader.signed 16 (b.toNat * 256 + c.toNat)), 3)) else
    if o = 156 then mm_g2 r (fun b c => (.ifCond .ge (Reader.signed 16 (b.toNat * 256 + c.toNat)), 3)) else
    if o = 157 then mm_g2 r (fun b c => (.ifCond .gt (Reader.signed 16 (b.toNat * 256 + c.toNat)), 3)) else
    if o = 158 then mm_g2 r (fun b c => (.ifCond .le (Reader.signed 16 (b.toNat * 256 + c.toNat)), 3)) else
    if o = 161 then mm_g2 r (fun b c => (.if_icmp .lt (Reader.signed 16 (b.toNat * 256 + c.toNat)), 3)) else
    if o = 163 then mm_g2 r (fun b c => (.if_icmp .gt (Reader.signed 16 (b.toNat * 256 + c.toNat)), 3)) else
    if o = 164 then mm_g2 r (fun b c => (.if_icmp .le (Reader.signed 16 (b.toNat * 256 + c.toNat)), 3)) else
    if o = 176 then some (.areturn, 1) else
    if o = 178 then mm_g2 r (fun b c => (.getstatic (b.toNat * 256 + c.toNat), 3)) else
    if o = 183 then mm_g2 r (fun b c => (.invokespecial (b.toNat * 256 + c.toNat), 3)) else
    if o = 187 then mm_g2 r (fun b c => (.new (b.toNat * 256 + c.toNat), 3)) else
    if o = 188 then (mm_gn r) else
    if o = 189 then mm_g2 r (fun b c => (.anewarray (b.toNat * 256 + c.toNat), 3)) else
    if o = 190 then some (.arraylength, 1) else
    if o = 198 then mm_g2 r (fun b c => (.ifnull (Reader.signed 16 (b.toNat * 256 + c.toNat)), 3)) else
    if o = 199 then mm_g2 r (fun b c => (.ifnonnull (Reader.signed 16 (b.toNat * 256 + c.toNat)), 3)) else
    none
set_option maxHeartbeats 4000000 in
set_option maxRecDepth 100000 in
theorem mm_dl_ok {bs : List UInt8} {p : Nat} {x : Instr × Nat} (h : mm_dl (bs.drop p) = some x) : decode ⟨bs.toArray⟩ p = .ok x := by
  generalize hl : bs.drop p = l at h
  cases l with
  | nil => cases h
  | cons o r =>
    unfold mm_dl at h
    dsimp only at h
    rcases mm_if h with ⟨rfl, h⟩ | ⟨-, h⟩
    · cases h; exact mm_dc_42 hl
    rcases mm_if h with ⟨rfl, h⟩ | ⟨-, h⟩
    · obtain ⟨b, c, r', rfl, rfl⟩ := mm_g2_ok h; exact mm_dc_180 hl
    rcases mm_if h with ⟨rfl, h⟩ | ⟨-, h⟩
    · cases h; exact mm_dc_27 hl
    rcases mm_if h with ⟨rfl, h⟩ | ⟨-, h⟩
    · obtain ⟨b, c, r', rfl, rfl⟩ := mm_g2_ok h; exact mm_dc_182 hl
    rcases mm_if h with ⟨rfl, h⟩ | ⟨-, h⟩
    · cases h; exact mm_dc_46 hl
    rcases mm_if h with ⟨rfl, h⟩ | ⟨-, h⟩
    · cases h; exact mm_dc_172 hl
    rcases mm_if h with ⟨rfl, h⟩ | ⟨-, h⟩
    · cases h; exact mm_dc_3 hl
    rcases mm_if h with ⟨rfl, h⟩ | ⟨-, h⟩
    · cases h; exact mm_dc_28 hl
    rcases mm_if h with ⟨rfl, h⟩ | ⟨-, h⟩
    · obtain ⟨b, r', rfl, rfl⟩ := mm_g1_ok h; exact mm_dc_16 hl
    rcases mm_if h with ⟨rfl, h⟩ | ⟨-, h⟩
    · cases h; exact mm_dc_29 hl
    rcases mm_if h with ⟨rfl, h⟩ | ⟨-, h⟩
    · cases h; exact mm_dc_4 hl
    rcases mm_if h with ⟨rfl, h⟩ | ⟨-, h⟩
    · obtain ⟨b, c, r', rfl, rfl⟩ := mm_g2_ok h; exact mm_dc_167 hl
    rcases mm_if h with ⟨rfl, h⟩ | ⟨-, h⟩
    · obtain ⟨b, r', rfl, rfl⟩ := mm_g1_ok h; exact mm_dc_21 hl
    rcases mm_if h with ⟨rfl, h⟩ | ⟨-, h⟩
    · obtain ⟨b, c, r', rfl, rfl⟩ := mm_g2_ok h; exact mm_dc_181 hl
    rcases mm_if h with ⟨rfl, h⟩ | ⟨-, h⟩
    · cases h; exact mm_dc_96 hl
    rcases mm_if h with ⟨rfl, h⟩ | ⟨-, h⟩
    · cases h; exact mm_dc_43 hl
    rcases mm_if h with ⟨rfl, h⟩ | ⟨-, h⟩
    · obtain ⟨b, c, r', rfl, rfl⟩ := mm_g2_ok h; exact mm_dc_153 hl
    rcases mm_if h with ⟨rfl, h⟩ | ⟨-, h⟩
    · cases h; exact mm_dc_2 hl
    rcases mm_if h with ⟨rfl, h⟩ | ⟨-, h⟩
    · obtain ⟨b, c, r', rfl, rfl⟩ := mm_g2_ok h; exact mm_dc_184 hl
    rcases mm_if h with ⟨rfl, h⟩ | ⟨-, h⟩
    · obtain ⟨b, c, r', rfl, rfl⟩ := mm_g2_ok h; exact mm_dc_160 hl
    rcases mm_if h with ⟨rfl, h⟩ | ⟨-, h⟩
    · obtain ⟨b, c, r', rfl, rfl⟩ := mm_g2_ok h; exact mm_dc_154 hl
    rcases mm_if h with ⟨rfl, h⟩ | ⟨-, h⟩
    · cases h; exact mm_dc_79 hl
    rcases mm_if h with ⟨rfl, h⟩ | ⟨-, h⟩
    · cases h; exact mm_dc_177 hl
    rcases mm_if h with ⟨rfl, h⟩ | ⟨-, h⟩
    · obtain ⟨b, r', rfl, rfl⟩ := mm_g1_ok h; exact mm_dc_54 hl
    rcases mm_if h with ⟨rfl, h⟩ | ⟨-, h⟩
    · obtain ⟨b, c, r', rfl, rfl⟩ := mm_g2_ok h; exact mm_dc_159 hl
    rcases mm_if h with ⟨rfl, h⟩ | ⟨-, h⟩
    · cases h; exact mm_dc_6 hl
    rcases mm_if h with ⟨rfl, h⟩ | ⟨-, h⟩
    · cases h; exact mm_dc_7 hl
    rcases mm_if h with ⟨rfl, h⟩ | ⟨-, h⟩
    · cases h; exact mm_dc_104 hl
    rcases mm_if h with ⟨rfl, h⟩ | ⟨-, h⟩
    · cases h; exact mm_dc_100 hl
    rcases mm_if h with ⟨rfl, h⟩ | ⟨-, h⟩
    · obtain ⟨b, c, r', rfl, rfl⟩ := mm_g2_ok h; exact mm_dc_162 hl
    rcases mm_if h with ⟨rfl, h⟩ | ⟨-, h⟩
    · cases h; exact mm_dc_89 hl
    rcases mm_if h with ⟨rfl, h⟩ | ⟨-, h⟩
    · cases h; exact mm_dc_62 hl
    rcases mm_if h with ⟨rfl, h⟩ | ⟨-, h⟩
    · cases h; exact mm_dc_5 hl
    rcases mm_if h with ⟨rfl, h⟩ | ⟨-, h⟩
    · cases h; exact mm_dc_44 hl
    rcases mm_if h with ⟨rfl, h⟩ | ⟨-, h⟩
    · obtain ⟨b, c, r', rfl, rfl⟩ := mm_g2_ok h; exact mm_dc_132 hl
    rcases mm_if h with ⟨rfl, h⟩ | ⟨-, h⟩
    · cases h; exact mm_dc_51 hl
    rcases mm_if h with ⟨rfl, h⟩ | ⟨-, h⟩
    · cases h; exact mm_dc_50 hl
    rcases mm_if h with ⟨rfl, h⟩ | ⟨-, h⟩
    · cases h; exact mm_dc_26 hl
    rcases mm_if h with ⟨rfl, h⟩ | ⟨-, h⟩
    · cases h; exact mm_dc_61 hl
    rcases mm_if h with ⟨rfl, h⟩ | ⟨-, h⟩
    · cases h; exact mm_dc_45 hl
    rcases mm_if h with ⟨rfl, h⟩ | ⟨-, h⟩
    · cases h; exact mm_dc_1 hl
    rcases mm_if h with ⟨rfl, h⟩ | ⟨-, h⟩
    · cases h; exact mm_dc_8 hl
    rcases mm_if h with ⟨rfl, h⟩ | ⟨-, h⟩
    · obtain ⟨b, c, r', rfl, rfl⟩ := mm_g2_ok h; exact mm_dc_17 hl
    rcases mm_if h with ⟨rfl, h⟩ | ⟨-, h⟩
    · obtain ⟨b, r', rfl, rfl⟩ := mm_g1_ok h; exact mm_dc_25 hl
    rcases mm_if h with ⟨rfl, h⟩ | ⟨-, h⟩
    · obtain ⟨b, r', rfl, rfl⟩ := mm_g1_ok h; exact mm_dc_58 hl
    rcases mm_if h with ⟨rfl, h⟩ | ⟨-, h⟩
    · cases h; exact mm_dc_59 hl
    rcases mm_if h with ⟨rfl, h⟩ | ⟨-, h⟩
    · cases h; exact mm_dc_60 hl
    rcases mm_if h with ⟨rfl, h⟩ | ⟨-, h⟩
    · cases h; exact mm_dc_75 hl
    rcases mm_if h with ⟨rfl, h⟩ | ⟨-, h⟩
    · cases h; exact mm_dc_76 hl
    rcases mm_if h with ⟨rfl, h⟩ | ⟨-, h⟩
    · cases h; exact mm_dc_77 hl
    rcases mm_if h with ⟨rfl, h⟩ | ⟨-, h⟩
    · cases h; exact mm_dc_78 hl
    rcases mm_if h with ⟨rfl, h⟩ | ⟨-, h⟩
    · cases h; exact mm_dc_83 hl
    rcases mm_if h with ⟨rfl, h⟩ | ⟨-, h⟩
    · cases h; exact mm_dc_84 hl
    rcases mm_if h with ⟨rfl, h⟩ | ⟨-, h⟩
    · cases h; exact mm_dc_87 hl
    rcases mm_if h with ⟨rfl, h⟩ | ⟨-, h⟩
    · cases h; exact mm_dc_92 hl
    rcases mm_if h with ⟨rfl, h⟩ | ⟨-, h⟩
    · cases h; exact mm_dc_120 hl
    rcases mm_if h with ⟨rfl, h⟩ | ⟨-, h⟩
    · cases h; exact mm_dc_122 hl
    rcases mm_if h with ⟨rfl, h⟩ | ⟨-, h⟩
    · cases h; exact mm_dc_126 hl
    rcases mm_if h with ⟨rfl, h⟩ | ⟨-, h⟩
    · cases h; exact mm_dc_128 hl
    rcases mm_if h with ⟨rfl, h⟩ | ⟨-, h⟩
    · cases h; exact mm_dc_130 hl
    rcases mm_if h with ⟨rfl, h⟩ | ⟨-, h⟩
    · obtain ⟨b, c, r', rfl, rfl⟩ := mm_g2_ok h; exact mm_dc_155 hl
    rcases mm_if h with ⟨rfl, h⟩ | ⟨-, h⟩
    · obtain ⟨b, c, r', rfl, rfl⟩ := mm_g2_ok h; exact mm_dc_156 hl
    rcases mm_if h with ⟨rfl, h⟩ | ⟨-, h⟩
    · obtain ⟨b, c, r', rfl, rfl⟩ := mm_g2_ok h; exact mm_dc_157 hl
    rcases mm_if h with ⟨rfl, h⟩ | ⟨-, h⟩
    · obtain ⟨b, c, r', rfl, rfl⟩ := mm_g2_ok h; exact mm_dc_158 hl
    rcases mm_if h with ⟨rfl, h⟩ | ⟨-, h⟩
    · obtain ⟨b, c, r', rfl, rfl⟩ := mm_g2_ok h; exact mm_dc_161 hl
    rcases mm_if h with ⟨rfl, h⟩ | ⟨-, h⟩
    · obtain ⟨b, c, r', rfl, rfl⟩ := mm_g2_ok h; exact mm_dc_163 hl
    rcases mm_if h with ⟨rfl, h⟩ | ⟨-, h⟩
    · obtain ⟨b, c, r', rfl, rfl⟩ := mm_g2_ok h; exact mm_dc_164 hl
    rcases mm_if h with ⟨rfl, h⟩ | ⟨-, h⟩
    · cases h; exact mm_dc_176 hl
    rcases mm_if h with ⟨rfl, h⟩ | ⟨-, h⟩
    · obtain ⟨b, c, r', rfl, rfl⟩ := mm_g2_ok h; exact mm_dc_178 hl
    rcases mm_if h with ⟨rfl, h⟩ | ⟨-, h⟩
    · obtain ⟨b, c, r', rfl, rfl⟩ := mm_g2_ok h; exact mm_dc_183 hl
    rcases mm_if h with ⟨rfl, h⟩ | ⟨-, h⟩
    · obtain ⟨b, c, r', rfl, rfl⟩ := mm_g2_ok h; exact mm_dc_187 hl
    rcases mm_if h with ⟨rfl, h⟩ | ⟨-, h⟩
    · exact mm_gn_ok hl h
    rcases mm_if h with ⟨rfl, h⟩ | ⟨-, h⟩
    · obtain ⟨b, c, r', rfl, rfl⟩ := mm_g2_ok h; exact mm_dc_189 hl
    rcases mm_if h with ⟨rfl, h⟩ | ⟨-, h⟩
    · cases h; exact mm_dc_190 hl
    rcases mm_if h with ⟨rfl, h⟩ | ⟨-, h⟩
    · obtain ⟨b, c, r', rfl, rfl⟩ := mm_g2_ok h; exact mm_dc_198 hl
    rcases mm_if h with ⟨rfl, h⟩ | ⟨-, h⟩
    · obtain ⟨b, c, r', rfl, rfl⟩ := mm_g2_ok h; exact mm_dc_199 hl
    cases h
/-- the code of a method walked along its bytes: each entry stands there (switches: asked of decode itself) -/
def mm_wk (M : mm_M) : List mm_I → Nat → List UInt8 → Bool
  | [], _, _ => true
  | e :: es, p, l => decide (e.1 = p) && (decide (mm_dl l = some (mm_or e.2.2.1 e.2.2.2, e.2.1)) || (decide (mm_ln e.2.2.2 = 0) && decide (decode M.2.1 e.1 = .ok (mm_or e.2.2.1 e.2.2.2, e.2.1)))) && (decide (mm_ln e.2.2.2 = 0) || decide (mm_ln e.2.2.2 = e.2.1)) && mm_lk M e.1 e.2.2.1 e.2.2.2 && mm_wk M es (p + e.2.1) (l.drop e.2.1)
theorem mm_wk_ok {M : mm_M} {bs : List UInt8} (hb : M.2.1 = ⟨bs.toArray⟩) : ∀ (es : List mm_I) (p : Nat), mm_wk M es p (bs.drop p) = true → ∀ e ∈ es, mm_ok1 M e = true := by
  intro es
  induction es with
  | nil => intro p _ e he; cases he
  | cons a es ih =>
    intro p h e he
    simp only [mm_wk, Bool.and_eq_true, Bool.or_eq_true, decide_eq_true_eq, List.drop_drop] at h
    obtain ⟨⟨⟨⟨hp, hd⟩, hl⟩, hk⟩, hr⟩ := h
    rcases List.mem_cons.mp he with rfl | he
    · simp only [mm_ok1, Bool.and_eq_true, Bool.or_eq_true, decide_eq_true_eq]
      refine ⟨⟨?_, hl⟩, hk⟩
      rcases hd with hd | hd
      · rw [hb, hp]; exact mm_dl_ok hd
      · exact hd.2
    · exact ih (p + a.2.1) hr e he
end
section
set_option maxRecDepth 100000 in
theorem mm_d_Op_goesOn : ∀ e ∈ mm_c_Op_goesOn, mm_ok1 mm_m_Op_goesOn e = true := mm_wk_ok (bs := [26, 16, 13, 159, 0, 19, 26, 16, 16, 159, 0, 13, 26, 16, 17, 159, 0, 7, 4, 167, 0, 4, 3, 172]) rfl mm_c_Op_goesOn 0 (by decide +kernel)
set_option maxRecDepth 100000 in
theorem mm_d_Op_jumps : ∀ e ∈ mm_c_Op_jumps, mm_ok1 mm_m_Op_jumps e = true := mm_wk_ok (bs := [26, 16, 13, 159, 0, 15, 26, 16, 14, 159, 0, 9, 26, 16, 15, 160, 0, 7, 4, 167, 0, 4, 3, 172]) rfl mm_c_Op_jumps 0 (by decide +kernel)
set_option maxRecDepth 100000 in
theorem mm_d_Op_mayThrow : ∀ e ∈ mm_c_Op_mayThrow, mm_ok1 mm_m_Op_mayThrow e = true := mm_wk_ok (bs := [26, 16, 11, 159, 0, 15, 26, 16, 12, 159, 0, 9, 26, 16, 17, 160, 0, 7, 4, 167, 0, 4, 3, 172]) rfl mm_c_Op_mayThrow 0 (by decide +kernel)
set_option maxRecDepth 100000 in
theorem mm_d_Va_of : ∀ e ∈ mm_c_Va_of, mm_ok1 mm_m_Va_of e = true := mm_wk_ok (bs := [26, 27, 4, 96, 6, 120, 128, 28, 153, 0, 7, 4, 167, 0, 4, 3, 16, 6, 120, 128, 29, 16, 7, 120, 128, 172]) rfl mm_c_Va_of 0 (by decide +kernel)
set_option maxRecDepth 100000 in
theorem mm_d_Va_ofPlace : ∀ e ∈ mm_c_Va_ofPlace, mm_ok1 mm_m_Va_ofPlace e = true := mm_wk_ok (bs := [42, 180, 0, 11, 2, 160, 0, 16, 4, 2, 3, 42, 180, 0, 17, 184, 0, 20, 167, 0, 16, 6, 42, 180, 0, 11, 27, 42, 180, 0, 17, 184, 0, 20, 172]) rfl mm_c_Va_ofPlace 0 (by decide +kernel)
set_option maxRecDepth 100000 in
theorem mm_d_Va_kind : ∀ e ∈ mm_c_Va_kind, mm_ok1 mm_m_Va_kind e = true := mm_wk_ok (bs := [26, 16, 7, 126, 172]) rfl mm_c_Va_kind 0 (by decide +kernel)
set_option maxRecDepth 100000 in
theorem mm_d_Va_classOf : ∀ e ∈ mm_c_Va_classOf, mm_ok1 mm_m_Va_classOf e = true := mm_wk_ok (bs := [26, 6, 122, 16, 7, 126, 4, 100, 172]) rfl mm_c_Va_classOf 0 (by decide +kernel)
set_option maxRecDepth 100000 in
theorem mm_d_Va_may : ∀ e ∈ mm_c_Va_may, mm_ok1 mm_m_Va_may e = true := mm_wk_ok (bs := [26, 16, 6, 122, 4, 126, 153, 0, 7, 4, 167, 0, 4, 3, 172]) rfl mm_c_Va_may 0 (by decide +kernel)
set_option maxRecDepth 100000 in
theorem mm_d_Va_marks : ∀ e ∈ mm_c_Va_marks, mm_ok1 mm_m_Va_marks e = true := mm_wk_ok (bs := [26, 16, 7, 122, 16, 15, 126, 172]) rfl mm_c_Va_marks 0 (by decide +kernel)
set_option maxRecDepth 100000 in
theorem mm_d_Va_origin : ∀ e ∈ mm_c_Va_origin, mm_ok1 mm_m_Va_origin e = true := mm_wk_ok (bs := [26, 16, 11, 122, 4, 100, 172]) rfl mm_c_Va_origin 0 (by decide +kernel)
set_option maxRecDepth 100000 in
theorem mm_d_Va_withOrigin : ∀ e ∈ mm_c_Va_withOrigin, mm_ok1 mm_m_Va_withOrigin e = true := mm_wk_ok (bs := [26, 17, 7, 255, 126, 27, 4, 96, 16, 11, 120, 128, 172]) rfl mm_c_Va_withOrigin 0 (by decide +kernel)
set_option maxRecDepth 100000 in
theorem mm_d_Va_withKind : ∀ e ∈ mm_c_Va_withKind, mm_ok1 mm_m_Va_withKind e = true := mm_wk_ok (bs := [26, 16, 192, 126, 27, 128, 28, 4, 96, 6, 120, 128, 172]) rfl mm_c_Va_withKind 0 (by decide +kernel)
set_option maxRecDepth 100000 in
theorem mm_d_Va_notNull : ∀ e ∈ mm_c_Va_notNull, mm_ok1 mm_m_Va_notNull e = true := mm_wk_ok (bs := [26, 16, 191, 126, 172]) rfl mm_c_Va_notNull 0 (by decide +kernel)
set_option maxRecDepth 100000 in
theorem mm_d_Va_join : ∀ e ∈ mm_c_Va_join, mm_ok1 mm_m_Va_join e = true := mm_wk_ok (bs := [26, 27, 160, 0, 5, 26, 172, 26, 184, 0, 24, 62, 27, 184, 0, 24, 54, 4, 3, 2, 26, 184, 0, 28, 154, 0, 10, 27, 184, 0, 28, 153, 0, 7, 4, 167, 0, 4, 3, 26, 184, 0, 32, 27, 184, 0, 32, 128, 184, 0, 20, 54, 5, 26, 184, 0, 34, 27, 184, 0, 34, 160, 0, 14, 21, 5, 26, 184, 0, 34, 184, 0, 37, 54, 5, 29, 6, 160, 0, 28, 21, 4, 6, 160, 0, 22, 21, 5, 6, 44, 26, 184, 0, 41, 27, 184, 0, 41, 182, 0, 44, 184, 0, 49, 172, 29, 21, 4, 159, 0, 14, 29, 6, 160, 0, 20, 21, 4, 5, 160, 0, 14, 21, 5, 29, 26, 184, 0, 41, 184, 0, 49, 172, 29, 5, 160, 0, 22, 21, 4, 6, 160, 0, 16, 21, 5, 6, 27, 184, 0, 41, 184, 0, 49, 167, 0, 5, 21, 5, 172]) rfl mm_c_Va_join 0 (by decide +kernel)
set_option maxRecDepth 100000 in
theorem mm_d_Va_part : ∀ e ∈ mm_c_Va_part, mm_ok1 mm_m_Va_part e = true := mm_wk_ok (bs := [27, 170, 0, 0, 0, 0, 0, 68, 0, 0, 0, 0, 0, 0, 0, 4, 0, 0, 0, 35, 0, 0, 0, 40, 0, 0, 0, 45, 0, 0, 0, 58, 0, 0, 0, 63, 26, 184, 0, 24, 172, 26, 184, 0, 41, 172, 26, 184, 0, 28, 153, 0, 7, 4, 167, 0, 4, 3, 172, 26, 184, 0, 32, 172, 26, 184, 0, 34, 172, 2, 172]) rfl mm_c_Va_part 0 (by decide +kernel)
set_option maxRecDepth 100000 in
theorem mm_d_Pl_init : ∀ e ∈ mm_c_Pl_init, mm_ok1 mm_m_Pl_init e = true := mm_wk_ok (bs := [42, 183, 0, 1, 42, 27, 28, 29, 182, 0, 7, 177]) rfl mm_c_Pl_init 0 (by decide +kernel)
set_option maxRecDepth 100000 in
theorem mm_d_Pl_become : ∀ e ∈ mm_c_Pl_become, mm_ok1 mm_m_Pl_become e = true := mm_wk_ok (bs := [42, 27, 181, 0, 13, 42, 28, 153, 0, 11, 27, 155, 0, 7, 4, 167, 0, 4, 3, 181, 0, 17, 42, 29, 181, 0, 21, 177]) rfl mm_c_Pl_become 0 (by decide +kernel)
set_option maxRecDepth 100000 in
theorem mm_d_Me_init : ∀ e ∈ mm_c_Me_init, mm_ok1 mm_m_Me_init e = true := mm_wk_ok (bs := [42, 183, 0, 3, 42, 6, 189, 0, 9, 181, 0, 11, 42, 187, 0, 9, 89, 16, 254, 3, 3, 183, 0, 17, 181, 0, 20, 42, 2, 181, 0, 24, 42, 16, 20, 188, 10, 181, 0, 28, 42, 16, 20, 188, 10, 181, 0, 32, 42, 5, 188, 10, 181, 0, 35, 42, 5, 188, 10, 181, 0, 38, 42, 5, 188, 10, 181, 0, 41, 42, 27, 181, 0, 44, 42, 28, 181, 0, 47, 42, 29, 181, 0, 50, 177]) rfl mm_c_Me_init 0 (by decide +kernel)
set_option maxRecDepth 100000 in
theorem mm_d_Me_addParam : ∀ e ∈ mm_c_Me_addParam, mm_ok1 mm_m_Me_addParam e = true := mm_wk_ok (bs := [42, 180, 0, 11, 42, 180, 0, 54, 43, 83, 42, 89, 180, 0, 54, 4, 96, 181, 0, 54, 42, 180, 0, 54, 172]) rfl mm_c_Me_addParam 0 (by decide +kernel)
set_option maxRecDepth 100000 in
theorem mm_d_Me_addInstruction : ∀ e ∈ mm_c_Me_addInstruction, mm_ok1 mm_m_Me_addInstruction e = true := mm_wk_ok (bs := [42, 180, 0, 28, 42, 180, 0, 57, 27, 79, 42, 180, 0, 32, 42, 180, 0, 57, 28, 79, 42, 89, 180, 0, 57, 4, 96, 181, 0, 57, 42, 180, 0, 57, 172]) rfl mm_c_Me_addInstruction 0 (by decide +kernel)
set_option maxRecDepth 100000 in
theorem mm_d_Me_addGuard : ∀ e ∈ mm_c_Me_addGuard, mm_ok1 mm_m_Me_addGuard e = true := mm_wk_ok (bs := [42, 180, 0, 35, 42, 180, 0, 60, 27, 79, 42, 180, 0, 38, 42, 180, 0, 60, 28, 79, 42, 180, 0, 41, 42, 180, 0, 60, 29, 79, 42, 89, 180, 0, 60, 4, 96, 181, 0, 60, 42, 180, 0, 60, 172]) rfl mm_c_Me_addGuard 0 (by decide +kernel)
set_option maxRecDepth 100000 in
theorem mm_d_Me_clear : ∀ e ∈ mm_c_Me_clear, mm_ok1 mm_m_Me_clear e = true := mm_wk_ok (bs := [42, 180, 0, 57, 60, 42, 3, 181, 0, 57, 42, 3, 181, 0, 60, 27, 172]) rfl mm_c_Me_clear 0 (by decide +kernel)
set_option maxRecDepth 100000 in
theorem mm_d_Me_isBuiltIn : ∀ e ∈ mm_c_Me_isBuiltIn, mm_ok1 mm_m_Me_isBuiltIn e = true := mm_wk_ok (bs := [42, 180, 0, 24, 2, 159, 0, 7, 4, 167, 0, 4, 3, 172]) rfl mm_c_Me_isBuiltIn 0 (by decide +kernel)
set_option maxRecDepth 100000 in
theorem mm_d_Me_gives : ∀ e ∈ mm_c_Me_gives, mm_ok1 mm_m_Me_gives e = true := mm_wk_ok (bs := [42, 180, 0, 20, 180, 0, 63, 16, 254, 159, 0, 7, 4, 167, 0, 4, 3, 172]) rfl mm_c_Me_gives 0 (by decide +kernel)
set_option maxRecDepth 100000 in
theorem mm_d_Me_takes : ∀ e ∈ mm_c_Me_takes, mm_ok1 mm_m_Me_takes e = true := mm_wk_ok (bs := [42, 180, 0, 54, 42, 182, 0, 66, 96, 172]) rfl mm_c_Me_takes 0 (by decide +kernel)
set_option maxRecDepth 100000 in
theorem mm_d_Me_firstParam : ∀ e ∈ mm_c_Me_firstParam, mm_ok1 mm_m_Me_firstParam e = true := mm_wk_ok (bs := [42, 180, 0, 50, 153, 0, 7, 3, 167, 0, 4, 4, 172]) rfl mm_c_Me_firstParam 0 (by decide +kernel)
set_option maxRecDepth 100000 in
theorem mm_d_Me_caughtAt : ∀ e ∈ mm_c_Me_caughtAt, mm_ok1 mm_m_Me_caughtAt e = true := mm_wk_ok (bs := [3, 61, 28, 42, 180, 0, 60, 162, 0, 36, 42, 180, 0, 35, 28, 46, 27, 163, 0, 20, 27, 42, 180, 0, 38, 28, 46, 163, 0, 10, 42, 180, 0, 41, 28, 46, 172, 132, 2, 1, 167, 255, 218, 2, 172]) rfl mm_c_Me_caughtAt 0 (by decide +kernel)
set_option maxRecDepth 100000 in
theorem mm_d_St_init : ∀ e ∈ mm_c_St_init, mm_ok1 mm_m_St_init e = true := mm_wk_ok (bs := [42, 183, 0, 3, 42, 4, 181, 0, 9, 42, 16, 6, 188, 10, 181, 0, 15, 42, 16, 6, 188, 10, 181, 0, 19, 42, 16, 6, 188, 4, 181, 0, 22, 42, 16, 12, 188, 10, 181, 0, 26, 42, 16, 12, 189, 0, 29, 181, 0, 31, 42, 16, 10, 189, 0, 35, 181, 0, 37, 42, 180, 0, 15, 3, 2, 79, 42, 180, 0, 19, 3, 4, 79, 177]) rfl mm_c_St_init 0 (by decide +kernel)
set_option maxRecDepth 100000 in
theorem mm_d_St_makeClass : ∀ e ∈ mm_c_St_makeClass, mm_ok1 mm_m_St_makeClass e = true := mm_wk_ok (bs := [42, 180, 0, 9, 61, 42, 180, 0, 15, 28, 27, 79, 42, 180, 0, 19, 28, 42, 180, 0, 19, 27, 46, 4, 28, 120, 128, 79, 42, 89, 180, 0, 9, 4, 96, 181, 0, 9, 28, 172]) rfl mm_c_St_makeClass 0 (by decide +kernel)
set_option maxRecDepth 100000 in
theorem mm_d_St_makeField : ∀ e ∈ mm_c_St_makeField, mm_ok1 mm_m_St_makeField e = true := mm_wk_ok (bs := [42, 180, 0, 26, 42, 180, 0, 41, 27, 79, 42, 180, 0, 31, 42, 180, 0, 41, 44, 83, 42, 89, 180, 0, 41, 4, 96, 181, 0, 41, 42, 180, 0, 41, 4, 100, 172]) rfl mm_c_St_makeField 0 (by decide +kernel)
set_option maxRecDepth 100000 in
theorem mm_d_St_makeMethod : ∀ e ∈ mm_c_St_makeMethod, mm_ok1 mm_m_St_makeMethod e = true := mm_wk_ok (bs := [42, 180, 0, 37, 42, 180, 0, 44, 43, 83, 42, 89, 180, 0, 44, 4, 96, 181, 0, 44, 42, 180, 0, 44, 4, 100, 172]) rfl mm_c_St_makeMethod 0 (by decide +kernel)
set_option maxRecDepth 100000 in
theorem mm_d_St_isClass : ∀ e ∈ mm_c_St_isClass, mm_ok1 mm_m_St_isClass e = true := mm_wk_ok (bs := [27, 42, 180, 0, 9, 184, 0, 47, 172]) rfl mm_c_St_isClass 0 (by decide +kernel)
set_option maxRecDepth 100000 in
theorem mm_d_St_isMethod : ∀ e ∈ mm_c_St_isMethod, mm_ok1 mm_m_St_isMethod e = true := mm_wk_ok (bs := [27, 42, 180, 0, 44, 184, 0, 47, 172]) rfl mm_c_St_isMethod 0 (by decide +kernel)
set_option maxRecDepth 100000 in
theorem mm_d_St_isPlace : ∀ e ∈ mm_c_St_isPlace, mm_ok1 mm_m_St_isPlace e = true := mm_wk_ok (bs := [27, 2, 159, 0, 11, 42, 27, 182, 0, 51, 153, 0, 16, 28, 16, 16, 184, 0, 47, 153, 0, 7, 4, 167, 0, 4, 3, 172]) rfl mm_c_St_isPlace 0 (by decide +kernel)
set_option maxRecDepth 100000 in
theorem mm_d_St_isArgument : ∀ e ∈ mm_c_St_isArgument, mm_ok1 mm_m_St_isArgument e = true := mm_wk_ok (bs := [27, 170, 0, 0, 0, 0, 0, 106, 0, 0, 0, 2, 0, 0, 0, 15, 0, 0, 0, 71, 0, 0, 0, 71, 0, 0, 0, 106, 0, 0, 0, 106, 0, 0, 0, 106, 0, 0, 0, 78, 0, 0, 0, 106, 0, 0, 0, 84, 0, 0, 0, 84, 0, 0, 0, 93, 0, 0, 0, 78, 0, 0, 0, 99, 0, 0, 0, 99, 0, 0, 0, 99, 28, 16, 6, 184, 0, 47, 172, 42, 28, 182, 0, 51, 172, 28, 42, 180, 0, 41, 184, 0, 47, 172, 42, 28, 182, 0, 55, 172, 28, 16, 20, 184, 0, 47, 172, 4, 172]) rfl mm_c_St_isArgument 0 (by decide +kernel)
set_option maxRecDepth 100000 in
theorem mm_d_St_below : ∀ e ∈ mm_c_St_below, mm_ok1 mm_m_St_below e = true := mm_wk_ok (bs := [42, 180, 0, 19, 27, 46, 28, 122, 4, 126, 153, 0, 7, 4, 167, 0, 4, 3, 172]) rfl mm_c_St_below 0 (by decide +kernel)
set_option maxRecDepth 100000 in
theorem mm_d_St_common : ∀ e ∈ mm_c_St_common, mm_ok1 mm_m_St_common e = true := mm_wk_ok (bs := [42, 180, 0, 19, 27, 46, 42, 180, 0, 19, 28, 46, 126, 62, 8, 54, 4, 21, 4, 158, 0, 21, 29, 21, 4, 122, 4, 126, 153, 0, 6, 21, 4, 172, 132, 4, 255, 167, 255, 236, 3, 172]) rfl mm_c_St_common 0 (by decide +kernel)
set_option maxRecDepth 100000 in
theorem mm_d_St_own : ∀ e ∈ mm_c_St_own, mm_ok1 mm_m_St_own e = true := mm_wk_ok (bs := [3, 62, 29, 42, 180, 0, 44, 162, 0, 42, 42, 180, 0, 37, 29, 50, 180, 0, 58, 27, 160, 0, 23, 42, 180, 0, 37, 29, 50, 180, 0, 61, 28, 160, 0, 10, 42, 180, 0, 37, 29, 50, 176, 132, 3, 1, 167, 255, 212, 1, 176]) rfl mm_c_St_own 0 (by decide +kernel)
set_option maxRecDepth 100000 in
theorem mm_d_St_nearest : ∀ e ∈ mm_c_St_nearest, mm_ok1 mm_m_St_nearest e = true := mm_wk_ok (bs := [27, 62, 3, 54, 4, 21, 4, 16, 6, 162, 0, 37, 29, 2, 159, 0, 32, 42, 29, 28, 182, 0, 64, 58, 5, 25, 5, 198, 0, 6, 25, 5, 176, 42, 180, 0, 15, 29, 46, 62, 132, 4, 1, 167, 255, 218, 1, 176]) rfl mm_c_St_nearest 0 (by decide +kernel)
set_option maxRecDepth 100000 in
theorem mm_d_St_pops : ∀ e ∈ mm_c_St_pops, mm_ok1 mm_m_St_pops e = true := mm_wk_ok (bs := [43, 180, 0, 68, 28, 46, 171, 0, 0, 0, 0, 54, 0, 0, 0, 2, 0, 0, 0, 11, 0, 0, 0, 26, 0, 0, 0, 16, 0, 0, 0, 41, 42, 180, 0, 37, 43, 180, 0, 71, 28, 46, 50, 182, 0, 74, 172, 43, 182, 0, 78, 153, 0, 7, 4, 167, 0, 4, 3, 172, 178, 0, 82, 43, 180, 0, 68, 28, 46, 46, 172]) rfl mm_c_St_pops 0 (by decide +kernel)
set_option maxRecDepth 100000 in
theorem mm_d_St_breaksStack : ∀ e ∈ mm_c_St_breaksStack, mm_ok1 mm_m_St_breaksStack e = true := mm_wk_ok (bs := [43, 180, 0, 68, 28, 46, 54, 4, 29, 42, 43, 28, 182, 0, 87, 100, 54, 5, 21, 4, 16, 11, 160, 0, 24, 42, 180, 0, 37, 43, 180, 0, 71, 28, 46, 50, 182, 0, 78, 153, 0, 7, 4, 167, 0, 9, 178, 0, 91, 21, 4, 46, 54, 6, 21, 5, 155, 0, 12, 21, 5, 21, 6, 96, 7, 164, 0, 7, 4, 167, 0, 4, 3, 172]) rfl mm_c_St_breaksStack 0 (by decide +kernel)
set_option maxRecDepth 100000 in
theorem mm_d_St_canStart : ∀ e ∈ mm_c_St_canStart, mm_ok1 mm_m_St_canStart e = true := mm_wk_ok (bs := [43, 180, 0, 94, 153, 0, 30, 43, 182, 0, 98, 154, 0, 23, 42, 180, 0, 22, 43, 180, 0, 58, 51, 153, 0, 11, 43, 180, 0, 101, 5, 164, 0, 5, 3, 172, 3, 61, 28, 43, 180, 0, 101, 162, 0, 24, 43, 180, 0, 104, 28, 50, 180, 0, 107, 2, 159, 0, 5, 3, 172, 132, 2, 1, 167, 255, 230, 4, 172]) rfl mm_c_St_canStart 0 (by decide +kernel)
set_option maxRecDepth 100000 in
theorem mm_d_Fr_init : ∀ e ∈ mm_c_Fr_init, mm_ok1 mm_m_Fr_init e = true := mm_wk_ok (bs := [42, 183, 0, 3, 42, 16, 10, 188, 10, 181, 0, 9, 42, 2, 181, 0, 15, 42, 2, 181, 0, 19, 177]) rfl mm_c_Fr_init 0 (by decide +kernel)
set_option maxRecDepth 100000 in
theorem mm_d_Fr_become : ∀ e ∈ mm_c_Fr_become, mm_ok1 mm_m_Fr_become e = true := mm_wk_ok (bs := [43, 180, 0, 9, 3, 42, 180, 0, 9, 3, 42, 180, 0, 9, 190, 184, 0, 22, 42, 43, 180, 0, 15, 181, 0, 15, 42, 43, 180, 0, 19, 181, 0, 19, 42, 43, 180, 0, 28, 181, 0, 28, 177]) rfl mm_c_Fr_become 0 (by decide +kernel)
set_option maxRecDepth 100000 in
theorem mm_d_Fr_push : ∀ e ∈ mm_c_Fr_push, mm_ok1 mm_m_Fr_push e = true := mm_wk_ok (bs := [42, 180, 0, 9, 16, 6, 42, 180, 0, 15, 96, 27, 79, 42, 89, 180, 0, 15, 4, 96, 181, 0, 15, 177]) rfl mm_c_Fr_push 0 (by decide +kernel)
set_option maxRecDepth 100000 in
theorem mm_d_Fr_pop : ∀ e ∈ mm_c_Fr_pop, mm_ok1 mm_m_Fr_pop e = true := mm_wk_ok (bs := [42, 89, 180, 0, 15, 4, 100, 181, 0, 15, 42, 180, 0, 9, 16, 6, 42, 180, 0, 15, 96, 46, 172]) rfl mm_c_Fr_pop 0 (by decide +kernel)
set_option maxRecDepth 100000 in
theorem mm_d_Fr_under : ∀ e ∈ mm_c_Fr_under, mm_ok1 mm_m_Fr_under e = true := mm_wk_ok (bs := [42, 180, 0, 9, 16, 6, 42, 180, 0, 15, 96, 4, 100, 27, 100, 46, 172]) rfl mm_c_Fr_under 0 (by decide +kernel)
set_option maxRecDepth 100000 in
theorem mm_d_Fr_store : ∀ e ∈ mm_c_Fr_store, mm_ok1 mm_m_Fr_store e = true := mm_wk_ok (bs := [42, 180, 0, 9, 27, 42, 182, 0, 31, 2, 184, 0, 35, 79, 16, 6, 61, 28, 16, 6, 42, 180, 0, 15, 96, 162, 0, 38, 42, 180, 0, 9, 28, 46, 184, 0, 41, 27, 160, 0, 19, 42, 180, 0, 9, 28, 42, 180, 0, 9, 28, 46, 2, 184, 0, 35, 79, 132, 2, 1, 167, 255, 213, 177]) rfl mm_c_Fr_store 0 (by decide +kernel)
set_option maxRecDepth 100000 in
theorem mm_d_Fr_leaveSite : ∀ e ∈ mm_c_Fr_leaveSite, mm_ok1 mm_m_Fr_leaveSite e = true := mm_wk_ok (bs := [3, 62, 29, 16, 6, 42, 180, 0, 15, 96, 162, 0, 69, 42, 180, 0, 9, 29, 46, 184, 0, 45, 7, 160, 0, 50, 42, 180, 0, 9, 29, 46, 184, 0, 48, 54, 4, 42, 180, 0, 9, 29, 27, 153, 0, 18, 42, 180, 0, 9, 29, 46, 6, 21, 4, 184, 0, 51, 167, 0, 14, 42, 180, 0, 9, 29, 46, 3, 2, 184, 0, 51, 79, 132, 3, 1, 167, 255, 182, 42, 28, 181, 0, 19, 42, 3, 181, 0, 28, 177]) rfl mm_c_Fr_leaveSite 0 (by decide +kernel)
set_option maxRecDepth 100000 in
theorem mm_d_Fr_join : ∀ e ∈ mm_c_Fr_join, mm_ok1 mm_m_Fr_join e = true := mm_wk_ok (bs := [42, 180, 0, 15, 2, 160, 0, 14, 42, 43, 182, 0, 55, 42, 4, 181, 0, 59, 177, 42, 180, 0, 15, 16, 254, 160, 0, 4, 177, 43, 180, 0, 15, 42, 180, 0, 15, 159, 0, 15, 42, 16, 254, 181, 0, 15, 42, 4, 181, 0, 59, 177, 42, 180, 0, 19, 62, 42, 180, 0, 28, 54, 4, 42, 180, 0, 19, 43, 180, 0, 19, 160, 0, 19, 42, 42, 180, 0, 28, 43, 180, 0, 28, 126, 181, 0, 28, 167, 0, 9, 42, 3, 2, 182, 0, 63, 42, 42, 180, 0, 59, 154, 0, 20, 42, 180, 0, 19, 29, 160, 0, 12, 42, 180, 0, 28, 21, 4, 159, 0, 7, 4, 167, 0, 4, 3, 181, 0, 59, 3, 54, 5, 21, 5, 16, 6, 42, 180, 0, 15, 96, 162, 0, 66, 42, 180, 0, 9, 21, 5, 46, 43, 180, 0, 9, 21, 5, 46, 44, 184, 0, 67, 54, 6, 42, 42, 180, 0, 59, 154, 0, 15, 21, 6, 42, 180, 0, 9, 21, 5, 46, 159, 0, 7, 4, 167, 0, 4, 3, 181, 0, 59, 42, 180, 0, 9, 21, 5, 21, 6, 79, 132, 5, 1, 167, 255, 184, 177]) rfl mm_c_Fr_join 0 (by decide +kernel)
set_option maxRecDepth 100000 in
theorem mm_d_Ru_init : ∀ e ∈ mm_c_Ru_init, mm_ok1 mm_m_Ru_init e = true := mm_wk_ok (bs := [42, 183, 0, 3, 42, 43, 181, 0, 9, 177]) rfl mm_c_Ru_init 0 (by decide +kernel)
set_option maxRecDepth 100000 in
theorem mm_d_Ru_wayError : ∀ e ∈ mm_c_Ru_wayError, mm_ok1 mm_m_Ru_wayError e = true := mm_wk_ok (bs := [45, 180, 0, 15, 2, 160, 0, 5, 3, 172, 42, 43, 28, 182, 0, 21, 153, 0, 5, 4, 172, 45, 180, 0, 15, 16, 254, 160, 0, 5, 5, 172, 42, 180, 0, 9, 43, 28, 45, 180, 0, 15, 182, 0, 25, 153, 0, 7, 6, 167, 0, 4, 3, 172]) rfl mm_c_Ru_wayError 0 (by decide +kernel)
set_option maxRecDepth 100000 in
theorem mm_d_Ru_leadsAway : ∀ e ∈ mm_c_Ru_leadsAway, mm_ok1 mm_m_Ru_leadsAway e = true := mm_wk_ok (bs := [43, 180, 0, 31, 28, 46, 62, 29, 184, 0, 37, 153, 0, 17, 28, 4, 96, 43, 180, 0, 43, 161, 0, 7, 4, 167, 0, 4, 3, 54, 4, 29, 184, 0, 46, 153, 0, 20, 43, 180, 0, 49, 28, 46, 43, 180, 0, 43, 161, 0, 7, 4, 167, 0, 4, 3, 54, 5, 21, 4, 154, 0, 27, 21, 5, 154, 0, 22, 29, 184, 0, 52, 153, 0, 19, 43, 28, 182, 0, 55, 43, 180, 0, 43, 161, 0, 7, 4, 167, 0, 4, 3, 172]) rfl mm_c_Ru_leadsAway 0 (by decide +kernel)
set_option maxRecDepth 100000 in
theorem mm_d_Ru_valueError : ∀ e ∈ mm_c_Ru_valueError, mm_ok1 mm_m_Ru_valueError e = true := mm_wk_ok (bs := [43, 180, 0, 49, 28, 46, 54, 4, 43, 180, 0, 31, 28, 46, 170, 0, 0, 0, 0, 235, 0, 0, 0, 6, 0, 0, 0, 17, 0, 0, 0, 62, 0, 0, 0, 235, 0, 0, 0, 91, 0, 0, 0, 105, 0, 0, 0, 125, 0, 0, 0, 167, 0, 0, 0, 183, 0, 0, 0, 235, 0, 0, 0, 82, 0, 0, 0, 183, 0, 0, 0, 197, 0, 0, 0, 222, 45, 3, 182, 0, 59, 184, 0, 62, 45, 4, 182, 0, 59, 184, 0, 62, 184, 0, 65, 172, 45, 3, 182, 0, 59, 184, 0, 62, 172, 42, 45, 3, 182, 0, 59, 45, 180, 0, 69, 182, 0, 72, 172, 42, 45, 3, 182, 0, 59, 42, 180, 0, 9, 180, 0, 75, 21, 4, 46, 182, 0, 78, 172, 42, 45, 3, 182, 0, 59, 42, 180, 0, 9, 180, 0, 81, 21, 4, 50, 182, 0, 85, 42, 45, 4, 182, 0, 59, 42, 180, 0, 9, 180, 0, 75, 21, 4, 46, 182, 0, 78, 184, 0, 65, 172, 42, 42, 180, 0, 9, 180, 0, 89, 21, 4, 50, 45, 182, 0, 93, 172, 42, 45, 3, 182, 0, 59, 3, 4, 16, 15, 182, 0, 97, 172, 43, 182, 0, 101, 153, 0, 19, 42, 45, 3, 182, 0, 59, 43, 180, 0, 105, 182, 0, 85, 167, 0, 4, 3, 172, 42, 45, 3, 182, 0, 59, 3, 3, 3, 182, 0, 97, 172, 3, 172]) rfl mm_c_Ru_valueError 0 (by decide +kernel)
set_option maxRecDepth 100000 in
theorem mm_d_Ru_first : ∀ e ∈ mm_c_Ru_first, mm_ok1 mm_m_Ru_first e = true := mm_wk_ok (bs := [26, 153, 0, 7, 27, 154, 0, 9, 26, 27, 96, 167, 0, 8, 26, 27, 184, 0, 109, 172]) rfl mm_c_Ru_first 0 (by decide +kernel)
set_option maxRecDepth 100000 in
theorem mm_d_Ru_intError : ∀ e ∈ mm_c_Ru_intError, mm_ok1 mm_m_Ru_intError e = true := mm_wk_ok (bs := [26, 184, 0, 114, 4, 160, 0, 7, 3, 167, 0, 4, 7, 172]) rfl mm_c_Ru_intError 0 (by decide +kernel)
set_option maxRecDepth 100000 in
theorem mm_d_Ru_isReference : ∀ e ∈ mm_c_Ru_isReference, mm_ok1 mm_m_Ru_isReference e = true := mm_wk_ok (bs := [27, 184, 0, 114, 62, 29, 5, 159, 0, 28, 29, 6, 159, 0, 8, 29, 7, 160, 0, 22, 42, 180, 0, 9, 27, 184, 0, 119, 28, 182, 0, 122, 153, 0, 7, 4, 167, 0, 4, 3, 172]) rfl mm_c_Ru_isReference 0 (by decide +kernel)
set_option maxRecDepth 100000 in
theorem mm_d_Ru_referenceError : ∀ e ∈ mm_c_Ru_referenceError, mm_ok1 mm_m_Ru_referenceError e = true := mm_wk_ok (bs := [42, 27, 28, 182, 0, 126, 154, 0, 5, 7, 172, 27, 184, 0, 114, 7, 160, 0, 5, 8, 172, 27, 184, 0, 129, 153, 0, 10, 29, 154, 0, 6, 16, 6, 172, 27, 184, 0, 132, 21, 4, 2, 130, 126, 153, 0, 8, 16, 7, 167, 0, 4, 3, 172]) rfl mm_c_Ru_referenceError 0 (by decide +kernel)
set_option maxRecDepth 100000 in
theorem mm_d_Ru_holderError : ∀ e ∈ mm_c_Ru_holderError, mm_ok1 mm_m_Ru_holderError e = true := mm_wk_ok (bs := [42, 27, 28, 182, 0, 126, 154, 0, 5, 7, 172, 27, 184, 0, 129, 153, 0, 8, 16, 6, 167, 0, 4, 3, 172]) rfl mm_c_Ru_holderError 0 (by decide +kernel)
set_option maxRecDepth 100000 in
theorem mm_d_Ru_comingError : ∀ e ∈ mm_c_Ru_comingError, mm_ok1 mm_m_Ru_comingError e = true := mm_wk_ok (bs := [44, 180, 0, 135, 2, 159, 0, 21, 42, 27, 44, 180, 0, 135, 44, 180, 0, 140, 44, 180, 0, 143, 182, 0, 97, 172, 27, 184, 0, 114, 4, 159, 0, 5, 7, 172, 27, 184, 0, 132, 44, 180, 0, 143, 2, 130, 126, 153, 0, 8, 16, 7, 167, 0, 4, 3, 172]) rfl mm_c_Ru_comingError 0 (by decide +kernel)
set_option maxRecDepth 100000 in
theorem mm_d_Ru_callError : ∀ e ∈ mm_c_Ru_callError, mm_ok1 mm_m_Ru_callError e = true := mm_wk_ok (bs := [3, 62, 3, 54, 4, 21, 4, 43, 180, 0, 145, 162, 0, 42, 44, 43, 180, 0, 145, 4, 100, 21, 4, 100, 182, 0, 59, 54, 5, 29, 42, 21, 5, 43, 180, 0, 148, 21, 4, 50, 182, 0, 85, 184, 0, 65, 62, 132, 4, 1, 167, 255, 211, 43, 180, 0, 151, 153, 0, 5, 29, 172, 29, 42, 44, 43, 180, 0, 145, 182, 0, 59, 43, 180, 0, 154, 3, 3, 182, 0, 97, 184, 0, 65, 172]) rfl mm_c_Ru_callError 0 (by decide +kernel)
set_option maxRecDepth 100000 in
theorem mm_d_Ru_builtError : ∀ e ∈ mm_c_Ru_builtError, mm_ok1 mm_m_Ru_builtError e = true := mm_wk_ok (bs := [27, 184, 0, 114, 7, 159, 0, 5, 7, 172, 3, 62, 29, 42, 180, 0, 9, 180, 0, 157, 162, 0, 82, 42, 180, 0, 9, 180, 0, 81, 29, 50, 58, 4, 25, 4, 180, 0, 135, 2, 159, 0, 23, 25, 4, 180, 0, 140, 154, 0, 15, 28, 29, 122, 4, 126, 154, 0, 7, 4, 167, 0, 4, 3, 54, 5, 21, 5, 153, 0, 28, 42, 180, 0, 9, 27, 184, 0, 119, 42, 180, 0, 9, 180, 0, 75, 29, 46, 182, 0, 122, 153, 0, 5, 8, 172, 132, 3, 1, 167, 255, 169, 3, 172]) rfl mm_c_Ru_builtError 0 (by decide +kernel)
set_option maxRecDepth 100000 in
theorem mm_d_Ru_isFitBuiltIn : ∀ e ∈ mm_c_Ru_isFitBuiltIn, mm_ok1 mm_m_Ru_isFitBuiltIn e = true := mm_wk_ok (bs := [43, 180, 0, 160, 171, 0, 0, 0, 0, 0, 0, 78, 0, 0, 0, 2, 0, 0, 0, 0, 0, 0, 0, 28, 0, 0, 0, 1, 0, 0, 0, 45, 43, 180, 0, 105, 180, 0, 135, 2, 160, 0, 7, 4, 167, 0, 4, 3, 172, 43, 180, 0, 145, 158, 0, 27, 43, 180, 0, 148, 3, 50, 180, 0, 135, 2, 160, 0, 14, 43, 182, 0, 101, 154, 0, 7, 4, 167, 0, 4, 3, 172, 43, 180, 0, 145, 158, 0, 31, 43, 182, 0, 101, 153, 0, 24, 42, 43, 180, 0, 148, 3, 50, 43, 180, 0, 105, 182, 0, 163, 153, 0, 7, 4, 167, 0, 4, 3, 172]) rfl mm_c_Ru_isFitBuiltIn 0 (by decide +kernel)
set_option maxRecDepth 100000 in
theorem mm_d_Ru_fits : ∀ e ∈ mm_c_Ru_fits, mm_ok1 mm_m_Ru_fits e = true := mm_wk_ok (bs := [43, 180, 0, 135, 155, 0, 10, 44, 180, 0, 135, 156, 0, 20, 43, 180, 0, 135, 44, 180, 0, 135, 160, 0, 7, 4, 167, 0, 4, 3, 172, 42, 180, 0, 9, 43, 180, 0, 135, 44, 180, 0, 135, 182, 0, 122, 153, 0, 21, 44, 180, 0, 140, 154, 0, 10, 43, 180, 0, 140, 154, 0, 7, 4, 167, 0, 4, 3, 172]) rfl mm_c_Ru_fits 0 (by decide +kernel)
set_option maxRecDepth 100000 in
theorem mm_d_Ru_fitsWithMarks : ∀ e ∈ mm_c_Ru_fitsWithMarks, mm_ok1 mm_m_Ru_fitsWithMarks e = true := mm_wk_ok (bs := [42, 43, 44, 182, 0, 163, 153, 0, 21, 43, 180, 0, 143, 44, 180, 0, 143, 2, 130, 126, 154, 0, 7, 4, 167, 0, 4, 3, 172]) rfl mm_c_Ru_fitsWithMarks 0 (by decide +kernel)
set_option maxRecDepth 100000 in
theorem mm_d_Ru_mayReplace : ∀ e ∈ mm_c_Ru_mayReplace, mm_ok1 mm_m_Ru_mayReplace e = true := mm_wk_ok (bs := [43, 180, 0, 151, 154, 0, 21, 44, 180, 0, 151, 154, 0, 14, 43, 180, 0, 145, 44, 180, 0, 145, 159, 0, 5, 3, 172, 3, 62, 29, 43, 180, 0, 145, 162, 0, 30, 42, 44, 180, 0, 148, 29, 50, 43, 180, 0, 148, 29, 50, 182, 0, 167, 154, 0, 5, 3, 172, 132, 3, 1, 167, 255, 224, 43, 182, 0, 101, 153, 0, 18, 42, 43, 180, 0, 105, 44, 180, 0, 105, 182, 0, 167, 167, 0, 15, 44, 182, 0, 101, 154, 0, 7, 4, 167, 0, 4, 3, 172]) rfl mm_c_Ru_mayReplace 0 (by decide +kernel)
set_option maxRecDepth 100000 in
theorem mm_d_Lo_init : ∀ e ∈ mm_c_Lo_init, mm_ok1 mm_m_Lo_init e = true := mm_wk_ok (bs := [42, 183, 0, 3, 42, 16, 20, 189, 0, 9, 181, 0, 11, 42, 187, 0, 9, 89, 183, 0, 17, 181, 0, 18, 42, 187, 0, 9, 89, 183, 0, 17, 181, 0, 22, 42, 43, 181, 0, 25, 42, 187, 0, 29, 89, 43, 183, 0, 31, 181, 0, 34, 3, 61, 28, 42, 180, 0, 11, 190, 162, 0, 22, 42, 180, 0, 11, 28, 187, 0, 9, 89, 183, 0, 17, 83, 132, 2, 1, 167, 255, 231, 177]) rfl mm_c_Lo_init 0 (by decide +kernel)
set_option maxRecDepth 100000 in
theorem mm_d_Lo_frameAt : ∀ e ∈ mm_c_Lo_frameAt, mm_ok1 mm_m_Lo_frameAt e = true := mm_wk_ok (bs := [27, 42, 180, 0, 11, 190, 184, 0, 38, 153, 0, 12, 42, 180, 0, 11, 27, 50, 167, 0, 4, 1, 176]) rfl mm_c_Lo_frameAt 0 (by decide +kernel)
set_option maxRecDepth 100000 in
theorem mm_d_Lo_through : ∀ e ∈ mm_c_Lo_through, mm_ok1 mm_m_Lo_through e = true := mm_wk_ok (bs := [42, 43, 181, 0, 42, 3, 61, 28, 42, 180, 0, 11, 190, 162, 0, 29, 42, 180, 0, 11, 28, 50, 2, 181, 0, 46, 42, 180, 0, 11, 28, 50, 3, 181, 0, 50, 132, 2, 1, 167, 255, 224, 43, 182, 0, 54, 153, 0, 21, 42, 180, 0, 34, 43, 182, 0, 60, 153, 0, 7, 3, 167, 0, 5, 16, 9, 172, 43, 180, 0, 64, 154, 0, 6, 16, 8, 172, 42, 42, 180, 0, 11, 3, 50, 182, 0, 67, 42, 182, 0, 71, 3, 61, 28, 43, 180, 0, 64, 162, 0, 68, 42, 180, 0, 34, 43, 28, 42, 180, 0, 11, 28, 50, 182, 0, 74, 62, 29, 154, 0, 31, 42, 180, 0, 11, 28, 50, 180, 0, 46, 155, 0, 19, 42, 180, 0, 34, 43, 28, 42, 180, 0, 11, 28, 50, 182, 0, 78, 62, 29, 153, 0, 10, 42, 28, 181, 0, 81, 29, 172, 132, 2, 1, 167, 255, 186, 3, 172]) rfl mm_c_Lo_through 0 (by decide +kernel)
set_option maxRecDepth 100000 in
theorem mm_d_Lo_departs : ∀ e ∈ mm_c_Lo_departs, mm_ok1 mm_m_Lo_departs e = true := mm_wk_ok (bs := [42, 180, 0, 25, 180, 0, 84, 43, 180, 0, 90, 46, 61, 42, 180, 0, 25, 28, 43, 180, 0, 93, 182, 0, 96, 78, 45, 198, 0, 19, 42, 180, 0, 34, 43, 45, 182, 0, 100, 154, 0, 7, 4, 167, 0, 4, 3, 172]) rfl mm_c_Lo_departs 0 (by decide +kernel)
set_option maxRecDepth 100000 in
theorem mm_d_Lo_begin : ∀ e ∈ mm_c_Lo_begin, mm_ok1 mm_m_Lo_begin e = true := mm_wk_ok (bs := [43, 3, 181, 0, 46, 43, 2, 181, 0, 104, 43, 3, 181, 0, 107, 43, 4, 181, 0, 50, 3, 61, 28, 16, 6, 162, 0, 22, 43, 180, 0, 110, 28, 3, 2, 3, 3, 184, 0, 115, 79, 132, 2, 1, 167, 255, 234, 42, 180, 0, 42, 180, 0, 119, 154, 0, 22, 43, 180, 0, 110, 3, 6, 42, 180, 0, 42, 180, 0, 90, 3, 3, 184, 0, 115, 79, 3, 61, 28, 42, 180, 0, 42, 180, 0, 122, 162, 0, 41, 42, 180, 0, 42, 180, 0, 125, 28, 50, 78, 43, 180, 0, 110, 42, 180, 0, 42, 182, 0, 129, 28, 96, 45, 45, 180, 0, 133, 184, 0, 138, 79, 132, 2, 1, 167, 255, 210, 177]) rfl mm_c_Lo_begin 0 (by decide +kernel)
set_option maxRecDepth 100000 in
theorem mm_d_Lo_settle : ∀ e ∈ mm_c_Lo_settle, mm_ok1 mm_m_Lo_settle e = true := mm_wk_ok (bs := [4, 60, 3, 61, 27, 153, 0, 66, 28, 17, 39, 16, 162, 0, 59, 3, 60, 3, 62, 29, 42, 180, 0, 42, 180, 0, 64, 162, 0, 38, 42, 180, 0, 11, 29, 50, 180, 0, 50, 153, 0, 20, 42, 180, 0, 11, 29, 50, 3, 181, 0, 50, 42, 29, 182, 0, 142, 4, 60, 132, 3, 1, 167, 255, 213, 132, 2, 1, 167, 255, 192, 177]) rfl mm_c_Lo_settle 0 (by decide +kernel)
set_option maxRecDepth 100000 in
theorem mm_d_Lo_leave : ∀ e ∈ mm_c_Lo_leave, mm_ok1 mm_m_Lo_leave e = true := mm_wk_ok (bs := [42, 180, 0, 42, 180, 0, 146, 27, 46, 61, 42, 180, 0, 11, 27, 50, 78, 45, 180, 0, 46, 16, 254, 159, 0, 22, 42, 180, 0, 25, 42, 180, 0, 42, 27, 45, 180, 0, 46, 182, 0, 149, 153, 0, 7, 4, 167, 0, 4, 3, 54, 4, 42, 180, 0, 18, 45, 182, 0, 153, 21, 4, 153, 0, 15, 42, 180, 0, 18, 16, 254, 181, 0, 46, 167, 0, 41, 28, 16, 9, 162, 0, 21, 42, 27, 28, 42, 180, 0, 42, 180, 0, 158, 27, 46, 182, 0, 161, 167, 0, 17, 42, 28, 42, 180, 0, 42, 180, 0, 158, 27, 46, 182, 0, 165, 28, 184, 0, 169, 153, 0, 38, 42, 42, 180, 0, 42, 180, 0, 158, 27, 46, 21, 4, 154, 0, 9, 28, 16, 15, 159, 0, 10, 42, 180, 0, 18, 167, 0, 7, 42, 180, 0, 22, 182, 0, 173, 28, 184, 0, 177, 153, 0, 14, 42, 27, 4, 96, 42, 180, 0, 18, 182, 0, 173, 28, 184, 0, 180, 153, 0, 14, 42, 180, 0, 42, 27, 182, 0, 183, 167, 0, 4, 2, 54, 5, 21, 5, 2, 159, 0, 27, 42, 180, 0, 18, 45, 182, 0, 153, 42, 21, 4, 182, 0, 187, 42, 21, 5, 42, 180, 0, 18, 182, 0, 173, 177]) rfl mm_c_Lo_leave 0 (by decide +kernel)
set_option maxRecDepth 100000 in
theorem mm_d_Lo_beginCatch : ∀ e ∈ mm_c_Lo_beginCatch, mm_ok1 mm_m_Lo_beginCatch e = true := mm_wk_ok (bs := [42, 180, 0, 18, 27, 153, 0, 8, 16, 254, 167, 0, 4, 3, 181, 0, 46, 27, 154, 0, 17, 42, 180, 0, 18, 6, 3, 3, 3, 184, 0, 115, 182, 0, 191, 177]) rfl mm_c_Lo_beginCatch 0 (by decide +kernel)
set_option maxRecDepth 100000 in
theorem mm_d_Lo_arrive : ∀ e ∈ mm_c_Lo_arrive, mm_ok1 mm_m_Lo_arrive e = true := mm_wk_ok (bs := [27, 42, 180, 0, 42, 180, 0, 64, 162, 0, 17, 42, 180, 0, 11, 27, 50, 44, 42, 180, 0, 25, 182, 0, 194, 177]) rfl mm_c_Lo_arrive 0 (by decide +kernel)
set_option maxRecDepth 100000 in
theorem mm_d_Lo_applyToValues : ∀ e ∈ mm_c_Lo_applyToValues, mm_ok1 mm_m_Lo_applyToValues e = true := mm_wk_ok (bs := [28, 170, 0, 0, 0, 0, 0, 207, 0, 0, 0, 0, 0, 0, 0, 7, 0, 0, 0, 47, 0, 0, 0, 64, 0, 0, 0, 81, 0, 0, 0, 104, 0, 0, 0, 115, 0, 0, 0, 133, 0, 0, 0, 144, 0, 0, 0, 181, 42, 180, 0, 18, 4, 2, 3, 3, 184, 0, 115, 182, 0, 191, 167, 0, 174, 42, 180, 0, 18, 5, 2, 4, 3, 184, 0, 115, 182, 0, 191, 167, 0, 157, 42, 180, 0, 18, 42, 180, 0, 18, 180, 0, 110, 29, 46, 29, 184, 0, 198, 182, 0, 191, 167, 0, 134, 42, 180, 0, 18, 29, 182, 0, 202, 167, 0, 123, 42, 180, 0, 18, 42, 180, 0, 18, 3, 182, 0, 205, 182, 0, 191, 167, 0, 105, 42, 180, 0, 18, 182, 0, 208, 87, 167, 0, 94, 42, 180, 0, 18, 4, 2, 3, 42, 180, 0, 18, 182, 0, 208, 184, 0, 211, 42, 180, 0, 18, 182, 0, 208, 184, 0, 211, 128, 184, 0, 115, 182, 0, 191, 167, 0, 57, 42, 180, 0, 18, 3, 27, 182, 0, 214, 42, 180, 0, 18, 7, 29, 3, 3, 184, 0, 115, 182, 0, 191, 167, 0, 31, 42, 180, 0, 18, 42, 180, 0, 18, 3, 182, 0, 205, 184, 0, 218, 7, 160, 0, 7, 4, 167, 0, 4, 3, 2, 182, 0, 214, 177]) rfl mm_c_Lo_applyToValues 0 (by decide +kernel)
set_option maxRecDepth 100000 in
theorem mm_d_Lo_applyToStock : ∀ e ∈ mm_c_Lo_applyToStock, mm_ok1 mm_m_Lo_applyToStock e = true := mm_wk_ok (bs := [27, 170, 0, 0, 0, 0, 0, 124, 0, 0, 0, 9, 0, 0, 0, 15, 0, 0, 0, 43, 0, 0, 0, 51, 0, 0, 0, 59, 0, 0, 0, 75, 0, 0, 0, 124, 0, 0, 0, 106, 0, 0, 0, 117, 42, 28, 182, 0, 221, 167, 0, 76, 42, 28, 182, 0, 224, 167, 0, 68, 42, 42, 180, 0, 25, 180, 0, 227, 28, 50, 182, 0, 231, 167, 0, 52, 42, 180, 0, 18, 182, 0, 208, 62, 42, 180, 0, 18, 6, 28, 29, 184, 0, 235, 29, 184, 0, 211, 184, 0, 115, 182, 0, 191, 167, 0, 21, 42, 180, 0, 18, 182, 0, 208, 87, 167, 0, 10, 42, 182, 0, 237, 167, 0, 3, 177]) rfl mm_c_Lo_applyToStock 0 (by decide +kernel)
set_option maxRecDepth 100000 in
theorem mm_d_Lo_get : ∀ e ∈ mm_c_Lo_get, mm_ok1 mm_m_Lo_get e = true := mm_wk_ok (bs := [42, 180, 0, 18, 182, 0, 208, 61, 28, 184, 0, 218, 62, 29, 7, 160, 0, 21, 42, 180, 0, 18, 180, 0, 107, 27, 122, 4, 126, 154, 0, 7, 4, 167, 0, 4, 3, 54, 4, 29, 153, 0, 13, 29, 4, 159, 0, 8, 21, 4, 153, 0, 7, 4, 167, 0, 4, 3, 54, 5, 42, 180, 0, 18, 42, 180, 0, 25, 180, 0, 240, 27, 50, 42, 180, 0, 25, 180, 0, 240, 27, 50, 180, 0, 133, 154, 0, 8, 21, 5, 153, 0, 7, 4, 167, 0, 4, 3, 184, 0, 138, 182, 0, 191, 177]) rfl mm_c_Lo_get 0 (by decide +kernel)
set_option maxRecDepth 100000 in
theorem mm_d_Lo_put : ∀ e ∈ mm_c_Lo_put, mm_ok1 mm_m_Lo_put e = true := mm_wk_ok (bs := [42, 180, 0, 18, 182, 0, 208, 87, 42, 180, 0, 18, 182, 0, 208, 184, 0, 218, 7, 160, 0, 21, 42, 180, 0, 18, 42, 180, 0, 18, 180, 0, 107, 4, 27, 120, 128, 181, 0, 107, 177]) rfl mm_c_Lo_put 0 (by decide +kernel)
set_option maxRecDepth 100000 in
theorem mm_d_Lo_call : ∀ e ∈ mm_c_Lo_call, mm_ok1 mm_m_Lo_call e = true := mm_wk_ok (bs := [42, 180, 0, 18, 89, 180, 0, 46, 43, 182, 0, 243, 100, 181, 0, 46, 43, 182, 0, 246, 153, 0, 24, 42, 180, 0, 18, 43, 180, 0, 249, 43, 180, 0, 249, 180, 0, 133, 184, 0, 138, 182, 0, 191, 177]) rfl mm_c_Lo_call 0 (by decide +kernel)
set_option maxRecDepth 100000 in
theorem mm_d_Lo_isNull : ∀ e ∈ mm_c_Lo_isNull, mm_ok1 mm_m_Lo_isNull e = true := mm_wk_ok (bs := [42, 180, 0, 18, 182, 0, 208, 184, 0, 253, 60, 42, 180, 0, 22, 42, 180, 0, 18, 182, 0, 153, 27, 2, 159, 0, 63, 42, 180, 0, 18, 180, 0, 110, 27, 46, 184, 0, 218, 6, 160, 0, 26, 42, 180, 0, 22, 180, 0, 110, 27, 42, 180, 0, 22, 180, 0, 110, 27, 46, 5, 2, 184, 1, 0, 79, 42, 180, 0, 18, 180, 0, 110, 27, 42, 180, 0, 18, 180, 0, 110, 27, 46, 184, 1, 4, 79, 177]) rfl mm_c_Lo_isNull 0 (by decide +kernel)
set_option maxRecDepth 100000 in
theorem mm_d_Ac_init : ∀ e ∈ mm_c_Ac_init, mm_ok1 mm_m_Ac_init e = true := mm_wk_ok (bs := [42, 183, 0, 3, 42, 16, 6, 188, 10, 181, 0, 9, 42, 7, 188, 10, 181, 0, 15, 177]) rfl mm_c_Ac_init 0 (by decide +kernel)
set_option maxRecDepth 100000 in
theorem mm_d_Ac_begin : ∀ e ∈ mm_c_Ac_begin, mm_ok1 mm_m_Ac_begin e = true := mm_wk_ok (bs := [42, 43, 181, 0, 18, 42, 3, 181, 0, 22, 42, 3, 181, 0, 26, 3, 61, 28, 16, 6, 162, 0, 16, 42, 180, 0, 9, 28, 3, 79, 132, 2, 1, 167, 255, 240, 177]) rfl mm_c_Ac_begin 0 (by decide +kernel)
set_option maxRecDepth 100000 in
theorem mm_d_Ac_push : ∀ e ∈ mm_c_Ac_push, mm_ok1 mm_m_Ac_push e = true := mm_wk_ok (bs := [42, 180, 0, 26, 7, 162, 0, 23, 42, 180, 0, 15, 42, 180, 0, 26, 27, 79, 42, 89, 180, 0, 26, 4, 96, 181, 0, 26, 177]) rfl mm_c_Ac_push 0 (by decide +kernel)
set_option maxRecDepth 100000 in
theorem mm_d_Ac_pop : ∀ e ∈ mm_c_Ac_pop, mm_ok1 mm_m_Ac_pop e = true := mm_wk_ok (bs := [42, 180, 0, 26, 154, 0, 5, 3, 172, 42, 89, 180, 0, 26, 4, 100, 181, 0, 26, 42, 180, 0, 15, 42, 180, 0, 26, 46, 172]) rfl mm_c_Ac_pop 0 (by decide +kernel)
set_option maxRecDepth 100000 in
theorem mm_d_Ma_init : ∀ e ∈ mm_c_Ma_init, mm_ok1 mm_m_Ma_init e = true := mm_wk_ok (bs := [42, 183, 0, 3, 42, 16, 8, 188, 10, 181, 0, 9, 42, 16, 16, 188, 10, 181, 0, 15, 42, 16, 24, 188, 10, 181, 0, 18, 42, 17, 1, 32, 188, 10, 181, 0, 21, 42, 16, 6, 189, 0, 24, 181, 0, 26, 42, 43, 181, 0, 30, 3, 61, 28, 42, 180, 0, 26, 190, 162, 0, 22, 42, 180, 0, 26, 28, 187, 0, 24, 89, 183, 0, 34, 83, 132, 2, 1, 167, 255, 231, 177]) rfl mm_c_Ma_init 0 (by decide +kernel)
set_option maxRecDepth 100000 in
theorem mm_d_Ma_addInput : ∀ e ∈ mm_c_Ma_addInput, mm_ok1 mm_m_Ma_addInput e = true := mm_wk_ok (bs := [42, 180, 0, 9, 42, 180, 0, 35, 27, 79, 42, 89, 180, 0, 35, 4, 96, 181, 0, 35, 42, 180, 0, 35, 172]) rfl mm_c_Ma_addInput 0 (by decide +kernel)
set_option maxRecDepth 100000 in
theorem mm_d_Ma_start : ∀ e ∈ mm_c_Ma_start, mm_ok1 mm_m_Ma_start e = true := mm_wk_ok (bs := [42, 3, 181, 0, 39, 42, 3, 181, 0, 42, 42, 3, 181, 0, 45, 42, 3, 181, 0, 48, 42, 3, 181, 0, 51, 42, 3, 181, 0, 54, 42, 3, 181, 0, 57, 42, 2, 181, 0, 60, 42, 43, 182, 0, 63, 58, 4, 43, 180, 0, 67, 158, 0, 11, 25, 4, 180, 0, 72, 3, 28, 79, 43, 180, 0, 67, 4, 164, 0, 11, 25, 4, 180, 0, 72, 4, 29, 79, 3, 54, 5, 42, 180, 0, 60, 2, 160, 0, 42, 21, 5, 17, 1, 144, 162, 0, 34, 42, 89, 180, 0, 42, 4, 96, 181, 0, 42, 42, 42, 180, 0, 26, 42, 180, 0, 57, 4, 100, 50, 182, 0, 75, 132, 5, 1, 167, 255, 212, 42, 180, 0, 60, 2, 160, 0, 7, 7, 167, 0, 7, 42, 180, 0, 60, 172]) rfl mm_c_Ma_start 0 (by decide +kernel)
set_option maxRecDepth 100000 in
theorem mm_d_Ma_enter : ∀ e ∈ mm_c_Ma_enter, mm_ok1 mm_m_Ma_enter e = true := mm_wk_ok (bs := [42, 180, 0, 26, 42, 180, 0, 57, 50, 77, 44, 43, 182, 0, 79, 42, 89, 180, 0, 57, 4, 96, 181, 0, 57, 42, 42, 180, 0, 54, 42, 180, 0, 57, 184, 0, 83, 181, 0, 54, 44, 176]) rfl mm_c_Ma_enter 0 (by decide +kernel)
set_option maxRecDepth 100000 in
theorem mm_d_Ma_perform : ∀ e ∈ mm_c_Ma_perform, mm_ok1 mm_m_Ma_perform e = true := mm_wk_ok (bs := [43, 180, 0, 89, 43, 180, 0, 92, 180, 0, 96, 184, 0, 99, 154, 0, 10, 42, 16, 6, 181, 0, 60, 177, 43, 180, 0, 92, 180, 0, 103, 43, 180, 0, 89, 46, 61, 43, 180, 0, 92, 180, 0, 106, 43, 180, 0, 89, 46, 170, 0, 0, 0, 0, 0, 228, 0, 0, 0, 0, 0, 0, 0, 15, 0, 0, 0, 79, 0, 0, 0, 87, 0, 0, 0, 95, 0, 0, 0, 108, 0, 0, 0, 131, 0, 0, 0, 149, 0, 0, 0, 167, 0, 0, 0, 228, 0, 0, 0, 183, 0, 0, 0, 228, 0, 0, 0, 228, 0, 0, 0, 228, 0, 0, 0, 228, 0, 0, 0, 196, 0, 0, 0, 204, 0, 0, 0, 204, 43, 28, 184, 0, 109, 167, 0, 150, 43, 3, 184, 0, 109, 167, 0, 142, 43, 43, 180, 0, 72, 28, 46, 184, 0, 109, 167, 0, 129, 43, 180, 0, 72, 28, 43, 182, 0, 113, 79, 43, 89, 180, 0, 89, 4, 96, 181, 0, 89, 167, 0, 106, 43, 182, 0, 113, 62, 43, 29, 182, 0, 117, 43, 29, 184, 0, 109, 167, 0, 88, 43, 182, 0, 113, 87, 43, 89, 180, 0, 89, 4, 96, 181, 0, 89, 167, 0, 70, 43, 43, 182, 0, 113, 43, 182, 0, 113, 96, 184, 0, 109, 167, 0, 54, 43, 89, 180, 0, 89, 4, 96, 181, 0, 89, 167, 0, 41, 43, 28, 181, 0, 89, 167, 0, 33, 43, 43, 182, 0, 113, 154, 0, 7, 28, 167, 0, 9, 43, 180, 0, 89, 4, 96, 181, 0, 89, 167, 0, 9, 42, 43, 28, 182, 0, 121, 177]) rfl mm_c_Ma_perform 0 (by decide +kernel)
set_option maxRecDepth 100000 in
theorem mm_d_Ma_performOnObjects : ∀ e ∈ mm_c_Ma_performOnObjects, mm_ok1 mm_m_Ma_performOnObjects e = true := mm_wk_ok (bs := [43, 180, 0, 92, 180, 0, 106, 43, 180, 0, 89, 46, 170, 0, 0, 0, 0, 0, 0, 117, 0, 0, 0, 7, 0, 0, 0, 16, 0, 0, 0, 56, 0, 0, 0, 117, 0, 0, 0, 65, 0, 0, 0, 74, 0, 0, 0, 83, 0, 0, 0, 100, 0, 0, 0, 117, 0, 0, 0, 117, 0, 0, 0, 117, 0, 0, 0, 109, 42, 43, 28, 182, 0, 124, 167, 0, 63, 42, 43, 28, 182, 0, 127, 167, 0, 54, 42, 43, 28, 182, 0, 130, 167, 0, 45, 42, 43, 42, 180, 0, 30, 180, 0, 133, 28, 50, 182, 0, 139, 167, 0, 28, 42, 43, 28, 182, 0, 143, 167, 0, 19, 42, 43, 182, 0, 146, 167, 0, 11, 42, 43, 182, 0, 113, 182, 0, 149, 177]) rfl mm_c_Ma_performOnObjects 0 (by decide +kernel)
set_option maxRecDepth 100000 in
theorem mm_d_Ma_pushAndGoOn : ∀ e ∈ mm_c_Ma_pushAndGoOn, mm_ok1 mm_m_Ma_pushAndGoOn e = true := mm_wk_ok (bs := [42, 27, 182, 0, 117, 42, 89, 180, 0, 89, 4, 96, 181, 0, 89, 177]) rfl mm_c_Ma_pushAndGoOn 0 (by decide +kernel)
set_option maxRecDepth 100000 in
theorem mm_d_Ma_isObject : ∀ e ∈ mm_c_Ma_isObject, mm_ok1 mm_m_Ma_isObject e = true := mm_wk_ok (bs := [27, 158, 0, 15, 27, 42, 180, 0, 45, 163, 0, 7, 4, 167, 0, 4, 3, 172]) rfl mm_c_Ma_isObject 0 (by decide +kernel)
set_option maxRecDepth 100000 in
theorem mm_d_Ma_makeObject : ∀ e ∈ mm_c_Ma_makeObject, mm_ok1 mm_m_Ma_makeObject e = true := mm_wk_ok (bs := [42, 180, 0, 30, 180, 0, 152, 28, 51, 154, 0, 9, 42, 8, 181, 0, 60, 177, 42, 180, 0, 45, 16, 24, 160, 0, 9, 42, 5, 181, 0, 60, 177, 42, 180, 0, 18, 42, 180, 0, 45, 28, 79, 3, 62, 29, 16, 12, 162, 0, 24, 42, 180, 0, 21, 42, 180, 0, 45, 16, 12, 104, 29, 96, 3, 79, 132, 3, 1, 167, 255, 232, 42, 89, 180, 0, 45, 4, 96, 181, 0, 45, 43, 42, 180, 0, 45, 184, 0, 109, 177]) rfl mm_c_Ma_makeObject 0 (by decide +kernel)
set_option maxRecDepth 100000 in
theorem mm_d_Ma_get : ∀ e ∈ mm_c_Ma_get, mm_ok1 mm_m_Ma_get e = true := mm_wk_ok (bs := [43, 182, 0, 113, 62, 42, 29, 182, 0, 156, 154, 0, 10, 42, 16, 6, 181, 0, 60, 177, 43, 42, 180, 0, 21, 29, 4, 100, 16, 12, 104, 28, 96, 46, 184, 0, 109, 177]) rfl mm_c_Ma_get 0 (by decide +kernel)
set_option maxRecDepth 100000 in
theorem mm_d_Ma_put : ∀ e ∈ mm_c_Ma_put, mm_ok1 mm_m_Ma_put e = true := mm_wk_ok (bs := [43, 182, 0, 113, 62, 43, 182, 0, 113, 54, 4, 42, 21, 4, 182, 0, 156, 154, 0, 10, 42, 16, 6, 181, 0, 60, 177, 42, 180, 0, 21, 21, 4, 4, 100, 16, 12, 104, 28, 96, 29, 79, 43, 89, 180, 0, 89, 4, 96, 181, 0, 89, 177]) rfl mm_c_Ma_put 0 (by decide +kernel)
set_option maxRecDepth 100000 in
theorem mm_d_Ma_cast : ∀ e ∈ mm_c_Ma_cast, mm_ok1 mm_m_Ma_cast e = true := mm_wk_ok (bs := [43, 182, 0, 113, 62, 42, 29, 182, 0, 156, 153, 0, 30, 42, 180, 0, 30, 42, 180, 0, 18, 29, 4, 100, 46, 28, 182, 0, 160, 154, 0, 11, 42, 29, 182, 0, 149, 167, 0, 8, 43, 29, 184, 0, 109, 177]) rfl mm_c_Ma_cast 0 (by decide +kernel)
set_option maxRecDepth 100000 in
theorem mm_d_Ma_call : ∀ e ∈ mm_c_Ma_call, mm_ok1 mm_m_Ma_call e = true := mm_wk_ok (bs := [3, 43, 180, 0, 163, 44, 182, 0, 166, 100, 184, 0, 83, 62, 44, 58, 4, 44, 180, 0, 169, 154, 0, 50, 43, 180, 0, 173, 29, 6, 184, 0, 176, 46, 54, 5, 42, 21, 5, 182, 0, 156, 153, 0, 26, 42, 180, 0, 30, 42, 180, 0, 18, 21, 5, 4, 100, 46, 44, 180, 0, 179, 182, 0, 182, 167, 0, 4, 1, 58, 4, 25, 4, 199, 0, 12, 42, 16, 6, 181, 0, 60, 167, 0, 96, 42, 180, 0, 30, 180, 0, 152, 25, 4, 180, 0, 186, 51, 154, 0, 11, 42, 8, 181, 0, 60, 167, 0, 72, 25, 4, 182, 0, 189, 153, 0, 14, 42, 43, 25, 4, 29, 182, 0, 193, 167, 0, 53, 42, 180, 0, 57, 16, 6, 160, 0, 11, 42, 6, 181, 0, 60, 167, 0, 36, 42, 25, 4, 182, 0, 63, 58, 5, 43, 180, 0, 173, 29, 25, 5, 180, 0, 72, 3, 43, 180, 0, 163, 29, 100, 184, 0, 197, 43, 29, 181, 0, 163, 177]) rfl mm_c_Ma_call 0 (by decide +kernel)
set_option maxRecDepth 100000 in
theorem mm_d_Ma_callBuiltIn : ∀ e ∈ mm_c_Ma_callBuiltIn, mm_ok1 mm_m_Ma_callBuiltIn e = true := mm_wk_ok (bs := [43, 180, 0, 173, 29, 44, 182, 0, 203, 96, 6, 184, 0, 176, 46, 54, 4, 43, 29, 181, 0, 163, 43, 89, 180, 0, 89, 4, 96, 181, 0, 89, 44, 180, 0, 206, 171, 0, 0, 0, 0, 0, 0, 102, 0, 0, 0, 2, 0, 0, 0, 0, 0, 0, 0, 28, 0, 0, 0, 1, 0, 0, 0, 69, 43, 42, 180, 0, 51, 42, 180, 0, 35, 162, 0, 15, 42, 180, 0, 9, 42, 180, 0, 51, 46, 167, 0, 4, 3, 182, 0, 117, 42, 89, 180, 0, 51, 4, 96, 181, 0, 51, 167, 0, 42, 42, 180, 0, 48, 16, 16, 162, 0, 14, 42, 180, 0, 15, 42, 180, 0, 48, 21, 4, 79, 42, 89, 180, 0, 48, 4, 96, 181, 0, 48, 167, 0, 9, 43, 21, 4, 182, 0, 117, 177]) rfl mm_c_Ma_callBuiltIn 0 (by decide +kernel)
set_option maxRecDepth 100000 in
theorem mm_d_Ma_give : ∀ e ∈ mm_c_Ma_give, mm_ok1 mm_m_Ma_give e = true := mm_wk_ok (bs := [43, 180, 0, 92, 182, 0, 209, 61, 28, 153, 0, 10, 43, 182, 0, 113, 167, 0, 4, 3, 62, 42, 89, 180, 0, 57, 4, 100, 181, 0, 57, 42, 180, 0, 57, 154, 0, 40, 42, 3, 181, 0, 60, 42, 28, 153, 0, 25, 43, 180, 0, 92, 180, 0, 212, 180, 0, 216, 2, 159, 0, 11, 42, 29, 182, 0, 221, 167, 0, 4, 29, 181, 0, 39, 177, 42, 180, 0, 26, 42, 180, 0, 57, 4, 100, 50, 58, 4, 28, 153, 0, 9, 25, 4, 29, 182, 0, 117, 25, 4, 89, 180, 0, 89, 4, 96, 181, 0, 89, 177]) rfl mm_c_Ma_give 0 (by decide +kernel)
set_option maxRecDepth 100000 in
theorem mm_d_Ma_classOf : ∀ e ∈ mm_c_Ma_classOf, mm_ok1 mm_m_Ma_classOf e = true := mm_wk_ok (bs := [42, 27, 182, 0, 156, 153, 0, 14, 42, 180, 0, 18, 27, 4, 100, 46, 167, 0, 4, 2, 172]) rfl mm_c_Ma_classOf 0 (by decide +kernel)
set_option maxRecDepth 100000 in
theorem mm_d_Ma_raise : ∀ e ∈ mm_c_Ma_raise, mm_ok1 mm_m_Ma_raise e = true := mm_wk_ok (bs := [42, 27, 182, 0, 156, 154, 0, 10, 42, 16, 6, 181, 0, 60, 177, 42, 180, 0, 57, 61, 28, 158, 0, 59, 42, 180, 0, 26, 28, 4, 100, 50, 78, 45, 180, 0, 92, 45, 180, 0, 89, 182, 0, 225, 54, 4, 21, 4, 2, 159, 0, 25, 42, 28, 181, 0, 57, 45, 3, 181, 0, 163, 45, 27, 182, 0, 117, 45, 21, 4, 181, 0, 89, 177, 132, 2, 255, 167, 255, 199, 42, 4, 181, 0, 60, 42, 42, 27, 182, 0, 221, 181, 0, 39, 177]) rfl mm_c_Ma_raise 0 (by decide +kernel)
set_option maxRecDepth 100000 in
theorem mm_d_Ga_init : ∀ e ∈ mm_c_Ga_init, mm_ok1 mm_m_Ga_init e = true := mm_wk_ok (bs := [42, 183, 0, 1, 42, 187, 0, 7, 89, 183, 0, 9, 181, 0, 10, 42, 187, 0, 16, 89, 42, 180, 0, 10, 183, 0, 18, 181, 0, 21, 42, 187, 0, 25, 89, 42, 180, 0, 10, 183, 0, 27, 181, 0, 28, 42, 2, 181, 0, 32, 177]) rfl mm_c_Ga_init 0 (by decide +kernel)
set_option maxRecDepth 100000 in
theorem mm_d_Ga_cls : ∀ e ∈ mm_c_Ga_cls, mm_ok1 mm_m_Ga_cls e = true := mm_wk_ok (bs := [42, 180, 0, 10, 180, 0, 36, 153, 0, 6, 16, 253, 172, 42, 180, 0, 10, 27, 182, 0, 40, 154, 0, 5, 2, 172, 42, 180, 0, 10, 180, 0, 44, 16, 6, 160, 0, 8, 16, 254, 167, 0, 11, 42, 180, 0, 10, 27, 182, 0, 47, 172]) rfl mm_c_Ga_cls 0 (by decide +kernel)
set_option maxRecDepth 100000 in
theorem mm_d_Ga_field : ∀ e ∈ mm_c_Ga_field, mm_ok1 mm_m_Ga_field e = true := mm_wk_ok (bs := [42, 180, 0, 10, 180, 0, 36, 153, 0, 6, 16, 253, 172, 42, 180, 0, 10, 27, 182, 0, 40, 153, 0, 16, 42, 180, 0, 10, 28, 21, 4, 182, 0, 51, 154, 0, 5, 2, 172, 42, 180, 0, 10, 180, 0, 55, 16, 12, 160, 0, 8, 16, 254, 167, 0, 22, 42, 180, 0, 10, 27, 187, 0, 58, 89, 28, 29, 21, 4, 183, 0, 60, 182, 0, 63, 172]) rfl mm_c_Ga_field 0 (by decide +kernel)
set_option maxRecDepth 100000 in
theorem mm_d_Ga_method : ∀ e ∈ mm_c_Ga_method, mm_ok1 mm_m_Ga_method e = true := mm_wk_ok (bs := [42, 180, 0, 10, 180, 0, 36, 153, 0, 6, 16, 253, 172, 42, 180, 0, 10, 27, 182, 0, 40, 153, 0, 24, 28, 16, 6, 184, 0, 67, 153, 0, 15, 42, 180, 0, 10, 27, 28, 182, 0, 70, 198, 0, 5, 2, 172, 42, 180, 0, 10, 180, 0, 74, 16, 10, 160, 0, 8, 16, 254, 167, 0, 20, 42, 180, 0, 10, 187, 0, 77, 89, 27, 28, 29, 183, 0, 79, 182, 0, 82, 172]) rfl mm_c_Ga_method 0 (by decide +kernel)
set_option maxRecDepth 100000 in
theorem mm_d_Ga_param : ∀ e ∈ mm_c_Ga_param, mm_ok1 mm_m_Ga_param e = true := mm_wk_ok (bs := [42, 180, 0, 10, 180, 0, 36, 153, 0, 6, 16, 253, 172, 42, 180, 0, 10, 27, 182, 0, 86, 153, 0, 16, 42, 180, 0, 10, 28, 21, 4, 182, 0, 51, 154, 0, 5, 2, 172, 42, 180, 0, 10, 180, 0, 89, 27, 50, 58, 5, 25, 5, 180, 0, 93, 6, 160, 0, 8, 16, 254, 167, 0, 19, 25, 5, 187, 0, 58, 89, 28, 29, 21, 4, 183, 0, 60, 182, 0, 96, 172]) rfl mm_c_Ga_param 0 (by decide +kernel)
set_option maxRecDepth 100000 in
theorem mm_d_Ga_result : ∀ e ∈ mm_c_Ga_result, mm_ok1 mm_m_Ga_result e = true := mm_wk_ok (bs := [28, 16, 254, 160, 0, 13, 21, 4, 16, 16, 184, 0, 67, 167, 0, 13, 42, 180, 0, 10, 28, 21, 4, 182, 0, 51, 54, 5, 42, 180, 0, 10, 180, 0, 36, 154, 0, 19, 42, 180, 0, 10, 27, 182, 0, 86, 153, 0, 8, 21, 5, 154, 0, 5, 3, 172, 42, 180, 0, 10, 180, 0, 89, 27, 50, 180, 0, 100, 28, 29, 21, 4, 182, 0, 104, 4, 172]) rfl mm_c_Ga_result 0 (by decide +kernel)
set_option maxRecDepth 100000 in
theorem mm_d_Ga_builtIn : ∀ e ∈ mm_c_Ga_builtIn, mm_ok1 mm_m_Ga_builtIn e = true := mm_wk_ok (bs := [42, 180, 0, 10, 180, 0, 36, 154, 0, 24, 42, 180, 0, 10, 27, 182, 0, 86, 153, 0, 13, 28, 2, 161, 0, 8, 28, 5, 164, 0, 5, 3, 172, 42, 180, 0, 10, 180, 0, 89, 27, 50, 28, 181, 0, 107, 4, 172]) rfl mm_c_Ga_builtIn 0 (by decide +kernel)
set_option maxRecDepth 100000 in
theorem mm_d_Ga_add : ∀ e ∈ mm_c_Ga_add, mm_ok1 mm_m_Ga_add e = true := mm_wk_ok (bs := [42, 180, 0, 10, 180, 0, 36, 153, 0, 6, 16, 253, 172, 42, 180, 0, 10, 27, 182, 0, 86, 153, 0, 24, 28, 16, 18, 184, 0, 67, 153, 0, 15, 42, 180, 0, 10, 28, 29, 182, 0, 112, 154, 0, 5, 2, 172, 42, 180, 0, 10, 180, 0, 89, 27, 50, 58, 4, 25, 4, 180, 0, 115, 16, 20, 160, 0, 8, 16, 254, 167, 0, 10, 25, 4, 28, 29, 182, 0, 118, 172]) rfl mm_c_Ga_add 0 (by decide +kernel)
set_option maxRecDepth 100000 in
theorem mm_d_Ga_guard : ∀ e ∈ mm_c_Ga_guard, mm_ok1 mm_m_Ga_guard e = true := mm_wk_ok (bs := [42, 180, 0, 10, 180, 0, 36, 153, 0, 6, 16, 253, 172, 28, 16, 20, 184, 0, 67, 153, 0, 26, 29, 16, 20, 184, 0, 67, 153, 0, 17, 21, 4, 16, 20, 184, 0, 67, 153, 0, 7, 4, 167, 0, 4, 3, 54, 5, 42, 180, 0, 10, 27, 182, 0, 86, 153, 0, 13, 21, 5, 153, 0, 8, 28, 29, 164, 0, 5, 2, 172, 42, 180, 0, 10, 180, 0, 89, 27, 50, 58, 6, 25, 6, 180, 0, 122, 5, 160, 0, 8, 16, 254, 167, 0, 12, 25, 6, 28, 29, 21, 4, 182, 0, 125, 172]) rfl mm_c_Ga_guard 0 (by decide +kernel)
set_option maxRecDepth 100000 in
theorem mm_d_Ga_wipe : ∀ e ∈ mm_c_Ga_wipe, mm_ok1 mm_m_Ga_wipe e = true := mm_wk_ok (bs := [42, 180, 0, 10, 180, 0, 36, 153, 0, 6, 16, 253, 172, 42, 180, 0, 10, 27, 182, 0, 86, 153, 0, 18, 42, 180, 0, 10, 180, 0, 89, 27, 50, 182, 0, 129, 167, 0, 4, 2, 172]) rfl mm_c_Ga_wipe 0 (by decide +kernel)
set_option maxRecDepth 100000 in
theorem mm_d_Ga_check : ∀ e ∈ mm_c_Ga_check, mm_ok1 mm_m_Ga_check e = true := mm_wk_ok (bs := [42, 180, 0, 10, 27, 182, 0, 86, 154, 0, 5, 2, 172, 42, 180, 0, 21, 42, 180, 0, 10, 180, 0, 89, 27, 50, 182, 0, 133, 61, 42, 42, 27, 28, 182, 0, 136, 181, 0, 32, 28, 172]) rfl mm_c_Ga_check 0 (by decide +kernel)
set_option maxRecDepth 100000 in
theorem mm_d_Ga_load : ∀ e ∈ mm_c_Ga_load, mm_ok1 mm_m_Ga_load e = true := mm_wk_ok (bs := [42, 180, 0, 10, 27, 182, 0, 40, 153, 0, 15, 42, 180, 0, 10, 180, 0, 139, 27, 51, 153, 0, 5, 2, 172, 27, 153, 0, 26, 42, 180, 0, 10, 180, 0, 139, 42, 180, 0, 10, 180, 0, 143, 27, 46, 51, 154, 0, 6, 16, 252, 172, 42, 2, 181, 0, 32, 3, 61, 28, 42, 180, 0, 10, 180, 0, 74, 162, 0, 72, 42, 180, 0, 10, 180, 0, 89, 28, 50, 78, 45, 180, 0, 147, 27, 160, 0, 48, 42, 180, 0, 21, 45, 182, 0, 150, 153, 0, 8, 16, 10, 167, 0, 11, 42, 180, 0, 21, 45, 182, 0, 133, 54, 4, 21, 4, 153, 0, 17, 42, 42, 28, 21, 4, 182, 0, 136, 181, 0, 32, 21, 4, 172, 132, 2, 1, 167, 255, 179, 42, 180, 0, 10, 180, 0, 139, 27, 4, 84, 42, 180, 0, 10, 4, 181, 0, 36, 3, 172]) rfl mm_c_Ga_load 0 (by decide +kernel)
set_option maxRecDepth 100000 in
theorem mm_d_Ga_isLoaded : ∀ e ∈ mm_c_Ga_isLoaded, mm_ok1 mm_m_Ga_isLoaded e = true := mm_wk_ok (bs := [42, 180, 0, 10, 27, 182, 0, 40, 153, 0, 19, 42, 180, 0, 10, 180, 0, 139, 27, 51, 153, 0, 7, 4, 167, 0, 4, 3, 172]) rfl mm_c_Ga_isLoaded 0 (by decide +kernel)
set_option maxRecDepth 100000 in
theorem mm_d_Ga_place : ∀ e ∈ mm_c_Ga_place, mm_ok1 mm_m_Ga_place e = true := mm_wk_ok (bs := [42, 180, 0, 32, 172]) rfl mm_c_Ga_place 0 (by decide +kernel)
set_option maxRecDepth 100000 in
theorem mm_d_Ga_frame : ∀ e ∈ mm_c_Ga_frame, mm_ok1 mm_m_Ga_frame e = true := mm_wk_ok (bs := [42, 180, 0, 21, 27, 182, 0, 154, 58, 4, 25, 4, 199, 0, 5, 2, 172, 28, 2, 160, 0, 13, 29, 154, 0, 9, 25, 4, 180, 0, 158, 172, 25, 4, 180, 0, 158, 156, 0, 5, 2, 172, 28, 2, 160, 0, 31, 29, 4, 160, 0, 11, 25, 4, 180, 0, 163, 167, 0, 17, 29, 5, 160, 0, 11, 25, 4, 180, 0, 166, 167, 0, 4, 2, 172, 28, 16, 6, 25, 4, 180, 0, 158, 96, 184, 0, 67, 153, 0, 17, 25, 4, 180, 0, 169, 28, 46, 29, 184, 0, 172, 167, 0, 4, 2, 172]) rfl mm_c_Ga_frame 0 (by decide +kernel)
set_option maxRecDepth 100000 in
theorem mm_d_Ga_input : ∀ e ∈ mm_c_Ga_input, mm_ok1 mm_m_Ga_input e = true := mm_wk_ok (bs := [42, 180, 0, 28, 180, 0, 177, 16, 8, 160, 0, 8, 16, 254, 167, 0, 11, 42, 180, 0, 28, 27, 182, 0, 180, 172]) rfl mm_c_Ga_input 0 (by decide +kernel)
set_option maxRecDepth 100000 in
theorem mm_d_Ga_run : ∀ e ∈ mm_c_Ga_run, mm_ok1 mm_m_Ga_run e = true := mm_wk_ok (bs := [42, 180, 0, 10, 27, 182, 0, 86, 153, 0, 22, 42, 180, 0, 10, 42, 180, 0, 10, 180, 0, 89, 27, 50, 182, 0, 183, 154, 0, 5, 2, 172, 42, 180, 0, 28, 42, 180, 0, 10, 180, 0, 89, 27, 50, 28, 29, 182, 0, 186, 172]) rfl mm_c_Ga_run 0 (by decide +kernel)
set_option maxRecDepth 100000 in
theorem mm_d_Ga_value : ∀ e ∈ mm_c_Ga_value, mm_ok1 mm_m_Ga_value e = true := mm_wk_ok (bs := [42, 180, 0, 28, 180, 0, 190, 172]) rfl mm_c_Ga_value 0 (by decide +kernel)
set_option maxRecDepth 100000 in
theorem mm_d_Ga_output : ∀ e ∈ mm_c_Ga_output, mm_ok1 mm_m_Ga_output e = true := mm_wk_ok (bs := [27, 42, 180, 0, 28, 180, 0, 193, 16, 16, 184, 0, 196, 184, 0, 67, 153, 0, 15, 42, 180, 0, 28, 180, 0, 201, 27, 46, 167, 0, 4, 3, 172]) rfl mm_c_Ga_output 0 (by decide +kernel)
set_option maxRecDepth 100000 in
theorem mm_d_Ga_told : ∀ e ∈ mm_c_Ga_told, mm_ok1 mm_m_Ga_told e = true := mm_wk_ok (bs := [27, 170, 0, 0, 0, 0, 0, 75, 0, 0, 0, 0, 0, 0, 0, 4, 0, 0, 0, 35, 0, 0, 0, 43, 0, 0, 0, 51, 0, 0, 0, 59, 0, 0, 0, 67, 42, 180, 0, 28, 180, 0, 204, 172, 42, 180, 0, 28, 180, 0, 207, 172, 42, 180, 0, 28, 180, 0, 193, 172, 42, 180, 0, 28, 180, 0, 210, 172, 42, 180, 0, 28, 180, 0, 213, 172, 2, 172]) rfl mm_c_Ga_told 0 (by decide +kernel)
set_option maxRecDepth 100000 in
theorem mm_d_Ga_placeOf : ∀ e ∈ mm_c_Ga_placeOf, mm_ok1 mm_m_Ga_placeOf e = true := mm_wk_ok (bs := [28, 154, 0, 5, 2, 172, 16, 32, 27, 104, 28, 16, 8, 161, 0, 8, 16, 31, 167, 0, 10, 42, 180, 0, 21, 180, 0, 216, 96, 172]) rfl mm_c_Ga_placeOf 0 (by decide +kernel)
set_option maxRecDepth 100000 in
theorem mm_d_Ga_within : ∀ e ∈ mm_c_Ga_within, mm_ok1 mm_m_Ga_within e = true := mm_wk_ok (bs := [26, 155, 0, 12, 26, 27, 162, 0, 7, 4, 167, 0, 4, 3, 172]) rfl mm_c_Ga_within 0 (by decide +kernel)
set_option maxRecDepth 100000 in
theorem mm_d_Mo_init : ∀ e ∈ mm_c_Mo_init, mm_ok1 mm_m_Mo_init e = true := mm_wk_ok (bs := [42, 183, 0, 1, 42, 4, 181, 0, 7, 42, 16, 6, 188, 10, 181, 0, 13, 42, 16, 12, 188, 10, 181, 0, 17, 42, 16, 12, 188, 10, 181, 0, 20, 42, 16, 12, 188, 10, 181, 0, 23, 42, 16, 6, 188, 4, 181, 0, 26, 42, 16, 12, 188, 4, 181, 0, 30, 42, 16, 10, 188, 10, 181, 0, 33, 42, 16, 10, 188, 10, 181, 0, 36, 42, 16, 10, 188, 10, 181, 0, 39, 42, 16, 10, 188, 10, 181, 0, 42, 42, 16, 10, 188, 10, 181, 0, 45, 42, 16, 10, 188, 10, 181, 0, 48, 42, 16, 40, 188, 10, 181, 0, 51, 42, 16, 40, 188, 10, 181, 0, 54, 42, 16, 10, 188, 4, 181, 0, 57, 42, 16, 40, 188, 4, 181, 0, 60, 42, 17, 0, 200, 188, 10, 181, 0, 63, 42, 17, 0, 200, 188, 10, 181, 0, 66, 42, 16, 20, 188, 10, 181, 0, 69, 42, 16, 20, 188, 10, 181, 0, 72, 42, 16, 20, 188, 10, 181, 0, 75, 42, 16, 20, 188, 10, 181, 0, 78, 42, 16, 20, 188, 10, 181, 0, 81, 42, 16, 20, 188, 10, 181, 0, 84, 42, 17, 0, 200, 188, 10, 181, 0, 87, 42, 17, 0, 200, 188, 10, 181, 0, 90, 42, 17, 0, 200, 188, 10, 181, 0, 93, 42, 17, 0, 200, 188, 10, 181, 0, 96, 42, 17, 0, 200, 188, 4, 181, 0, 99, 42, 2, 181, 0, 102, 42, 2, 181, 0, 105, 42, 16, 10, 188, 10, 181, 0, 108, 42, 16, 10, 188, 10, 181, 0, 111, 42, 16, 10, 188, 10, 181, 0, 114, 42, 16, 10, 188, 10, 181, 0, 117, 42, 16, 10, 188, 4, 181, 0, 120, 42, 16, 8, 188, 10, 181, 0, 123, 42, 16, 25, 188, 10, 181, 0, 126, 42, 17, 1, 44, 188, 10, 181, 0, 129, 42, 16, 36, 188, 10, 181, 0, 132, 42, 16, 24, 188, 10, 181, 0, 135, 42, 16, 6, 188, 10, 181, 0, 138, 42, 16, 6, 188, 10, 181, 0, 141, 42, 16, 6, 188, 10, 181, 0, 144, 42, 16, 16, 188, 10, 181, 0, 147, 42, 180, 0, 13, 3, 2, 79, 177]) rfl mm_c_Mo_init 0 (by decide +kernel)
set_option maxRecDepth 100000 in
theorem mm_d_Mo_within : ∀ e ∈ mm_c_Mo_within, mm_ok1 mm_m_Mo_within e = true := mm_wk_ok (bs := [26, 27, 161, 0, 12, 26, 28, 163, 0, 7, 4, 167, 0, 4, 3, 172]) rfl mm_c_Mo_within 0 (by decide +kernel)
set_option maxRecDepth 100000 in
theorem mm_d_Mo_isClass : ∀ e ∈ mm_c_Mo_isClass, mm_ok1 mm_m_Mo_isClass e = true := mm_wk_ok (bs := [27, 3, 42, 180, 0, 7, 4, 100, 184, 0, 150, 172]) rfl mm_c_Mo_isClass 0 (by decide +kernel)
set_option maxRecDepth 100000 in
theorem mm_d_Mo_isMethod : ∀ e ∈ mm_c_Mo_isMethod, mm_ok1 mm_m_Mo_isMethod e = true := mm_wk_ok (bs := [27, 3, 42, 180, 0, 154, 4, 100, 184, 0, 150, 172]) rfl mm_c_Mo_isMethod 0 (by decide +kernel)
set_option maxRecDepth 100000 in
theorem mm_d_Mo_frozen : ∀ e ∈ mm_c_Mo_frozen, mm_ok1 mm_m_Mo_frozen e = true := mm_wk_ok (bs := [3, 60, 27, 16, 6, 162, 0, 20, 42, 180, 0, 26, 27, 51, 153, 0, 5, 4, 172, 132, 1, 1, 167, 255, 236, 3, 172]) rfl mm_c_Mo_frozen 0 (by decide +kernel)
set_option maxRecDepth 100000 in
theorem mm_d_Mo_isBelow : ∀ e ∈ mm_c_Mo_isBelow, mm_ok1 mm_m_Mo_isBelow e = true := mm_wk_ok (bs := [27, 62, 29, 155, 0, 18, 29, 28, 159, 0, 13, 42, 180, 0, 13, 29, 46, 62, 167, 255, 240, 29, 155, 0, 7, 4, 167, 0, 4, 3, 172]) rfl mm_c_Mo_isBelow 0 (by decide +kernel)
set_option maxRecDepth 100000 in
theorem mm_d_Mo_says : ∀ e ∈ mm_c_Mo_says, mm_ok1 mm_m_Mo_says e = true := mm_wk_ok (bs := [27, 2, 159, 0, 11, 42, 27, 182, 0, 157, 153, 0, 17, 28, 3, 16, 15, 184, 0, 150, 153, 0, 7, 4, 167, 0, 4, 3, 172]) rfl mm_c_Mo_says 0 (by decide +kernel)
set_option maxRecDepth 100000 in
theorem mm_d_Mo_cls : ∀ e ∈ mm_c_Mo_cls, mm_ok1 mm_m_Mo_cls e = true := mm_wk_ok (bs := [42, 182, 0, 161, 153, 0, 6, 16, 253, 172, 42, 27, 182, 0, 157, 154, 0, 5, 2, 172, 42, 180, 0, 7, 16, 6, 160, 0, 6, 16, 254, 172, 42, 180, 0, 13, 42, 180, 0, 7, 27, 79, 42, 89, 180, 0, 7, 4, 96, 181, 0, 7, 42, 180, 0, 7, 4, 100, 172]) rfl mm_c_Mo_cls 0 (by decide +kernel)
set_option maxRecDepth 100000 in
theorem mm_d_Mo_field : ∀ e ∈ mm_c_Mo_field, mm_ok1 mm_m_Mo_field e = true := mm_wk_ok (bs := [42, 182, 0, 161, 153, 0, 6, 16, 253, 172, 42, 27, 182, 0, 157, 153, 0, 13, 42, 28, 21, 4, 182, 0, 165, 154, 0, 5, 2, 172, 42, 180, 0, 169, 16, 12, 160, 0, 6, 16, 254, 172, 42, 180, 0, 17, 42, 180, 0, 169, 27, 79, 42, 180, 0, 20, 42, 180, 0, 169, 28, 79, 42, 180, 0, 30, 42, 180, 0, 169, 29, 84, 42, 180, 0, 23, 42, 180, 0, 169, 21, 4, 79, 42, 89, 180, 0, 169, 4, 96, 181, 0, 169, 42, 180, 0, 169, 4, 100, 172]) rfl mm_c_Mo_field 0 (by decide +kernel)
set_option maxRecDepth 100000 in
theorem mm_d_Mo_own : ∀ e ∈ mm_c_Mo_own, mm_ok1 mm_m_Mo_own e = true := mm_wk_ok (bs := [3, 62, 29, 42, 180, 0, 154, 162, 0, 31, 42, 180, 0, 33, 29, 46, 27, 160, 0, 15, 42, 180, 0, 36, 29, 46, 28, 160, 0, 5, 29, 172, 132, 3, 1, 167, 255, 223, 2, 172]) rfl mm_c_Mo_own 0 (by decide +kernel)
set_option maxRecDepth 100000 in
theorem mm_d_Mo_find : ∀ e ∈ mm_c_Mo_find, mm_ok1 mm_m_Mo_find e = true := mm_wk_ok (bs := [27, 62, 2, 54, 4, 29, 155, 0, 26, 21, 4, 156, 0, 21, 42, 29, 28, 182, 0, 172, 54, 4, 42, 180, 0, 13, 29, 46, 62, 167, 255, 232, 21, 4, 172]) rfl mm_c_Mo_find 0 (by decide +kernel)
set_option maxRecDepth 100000 in
theorem mm_d_Mo_method : ∀ e ∈ mm_c_Mo_method, mm_ok1 mm_m_Mo_method e = true := mm_wk_ok (bs := [42, 182, 0, 161, 153, 0, 6, 16, 253, 172, 42, 27, 182, 0, 157, 153, 0, 21, 28, 3, 8, 184, 0, 150, 153, 0, 12, 42, 27, 28, 182, 0, 172, 155, 0, 5, 2, 172, 42, 180, 0, 154, 16, 10, 160, 0, 6, 16, 254, 172, 42, 180, 0, 33, 42, 180, 0, 154, 27, 79, 42, 180, 0, 36, 42, 180, 0, 154, 28, 79, 42, 180, 0, 57, 42, 180, 0, 154, 29, 84, 42, 180, 0, 42, 42, 180, 0, 154, 2, 79, 42, 180, 0, 51, 7, 42, 180, 0, 154, 104, 6, 96, 16, 254, 79, 42, 89, 180, 0, 154, 4, 96, 181, 0, 154, 42, 180, 0, 154, 4, 100, 172]) rfl mm_c_Mo_method 0 (by decide +kernel)
set_option maxRecDepth 100000 in
theorem mm_d_Mo_param : ∀ e ∈ mm_c_Mo_param, mm_ok1 mm_m_Mo_param e = true := mm_wk_ok (bs := [42, 182, 0, 161, 153, 0, 6, 16, 253, 172, 42, 27, 182, 0, 176, 153, 0, 13, 42, 28, 21, 4, 182, 0, 165, 154, 0, 5, 2, 172, 42, 180, 0, 39, 27, 46, 6, 160, 0, 6, 16, 254, 172, 42, 7, 27, 104, 42, 180, 0, 39, 27, 46, 96, 28, 29, 21, 4, 182, 0, 179, 42, 180, 0, 39, 27, 92, 46, 4, 96, 79, 42, 180, 0, 39, 27, 46, 172]) rfl mm_c_Mo_param 0 (by decide +kernel)
set_option maxRecDepth 100000 in
theorem mm_d_Mo_say : ∀ e ∈ mm_c_Mo_say, mm_ok1 mm_m_Mo_say e = true := mm_wk_ok (bs := [42, 180, 0, 51, 27, 28, 79, 42, 180, 0, 60, 27, 29, 84, 42, 180, 0, 54, 27, 21, 4, 79, 177]) rfl mm_c_Mo_say 0 (by decide +kernel)
set_option maxRecDepth 100000 in
theorem mm_d_Mo_result : ∀ e ∈ mm_c_Mo_result, mm_ok1 mm_m_Mo_result e = true := mm_wk_ok (bs := [42, 182, 0, 161, 154, 0, 38, 42, 27, 182, 0, 176, 153, 0, 30, 21, 4, 3, 16, 15, 184, 0, 150, 153, 0, 19, 28, 16, 254, 159, 0, 15, 42, 28, 21, 4, 182, 0, 165, 154, 0, 5, 3, 172, 42, 7, 27, 104, 6, 96, 28, 29, 21, 4, 182, 0, 179, 4, 172]) rfl mm_c_Mo_result 0 (by decide +kernel)
set_option maxRecDepth 100000 in
theorem mm_d_Mo_builtIn : ∀ e ∈ mm_c_Mo_builtIn, mm_ok1 mm_m_Mo_builtIn e = true := mm_wk_ok (bs := [42, 182, 0, 161, 154, 0, 20, 42, 27, 182, 0, 176, 153, 0, 12, 28, 2, 5, 184, 0, 150, 154, 0, 5, 3, 172, 42, 180, 0, 42, 27, 28, 79, 4, 172]) rfl mm_c_Mo_builtIn 0 (by decide +kernel)
set_option maxRecDepth 100000 in
theorem mm_d_Mo_add : ∀ e ∈ mm_c_Mo_add, mm_ok1 mm_m_Mo_add e = true := mm_wk_ok (bs := [42, 182, 0, 161, 153, 0, 6, 16, 253, 172, 42, 27, 182, 0, 176, 153, 0, 13, 28, 3, 16, 17, 184, 0, 150, 154, 0, 5, 2, 172, 28, 5, 159, 0, 8, 28, 6, 160, 0, 7, 8, 167, 0, 79, 28, 16, 7, 159, 0, 9, 28, 16, 12, 160, 0, 12, 42, 180, 0, 7, 4, 100, 167, 0, 58, 28, 16, 9, 159, 0, 9, 28, 16, 10, 160, 0, 12, 42, 180, 0, 169, 4, 100, 167, 0, 37, 28, 16, 11, 160, 0, 12, 42, 180, 0, 154, 4, 100, 167, 0, 22, 28, 16, 13, 161, 0, 14, 28, 16, 15, 163, 0, 8, 16, 19, 167, 0, 5, 16, 254, 54, 4, 21, 4, 16, 254, 164, 0, 15, 29, 3, 21, 4, 184, 0, 150, 154, 0, 5, 2, 172, 42, 180, 0, 45, 27, 46, 16, 20, 160, 0, 6, 16, 254, 172, 42, 180, 0, 63, 16, 20, 27, 104, 42, 180, 0, 45, 27, 46, 96, 28, 79, 42, 180, 0, 66, 16, 20, 27, 104, 42, 180, 0, 45, 27, 46, 96, 29, 79, 42, 180, 0, 45, 27, 92, 46, 4, 96, 79, 42, 180, 0, 45, 27, 46, 172]) rfl mm_c_Mo_add 0 (by decide +kernel)
set_option maxRecDepth 100000 in
theorem mm_d_Mo_guard : ∀ e ∈ mm_c_Mo_guard, mm_ok1 mm_m_Mo_guard e = true := mm_wk_ok (bs := [42, 182, 0, 161, 153, 0, 6, 16, 253, 172, 42, 27, 182, 0, 176, 153, 0, 34, 28, 3, 16, 19, 184, 0, 150, 153, 0, 24, 29, 28, 16, 19, 184, 0, 150, 153, 0, 14, 21, 4, 3, 16, 19, 184, 0, 150, 154, 0, 5, 2, 172, 42, 180, 0, 48, 27, 46, 5, 160, 0, 6, 16, 254, 172, 5, 27, 104, 42, 180, 0, 48, 27, 46, 96, 54, 5, 42, 180, 0, 69, 21, 5, 28, 79, 42, 180, 0, 72, 21, 5, 29, 79, 42, 180, 0, 75, 21, 5, 21, 4, 79, 42, 180, 0, 48, 27, 92, 46, 4, 96, 79, 42, 180, 0, 48, 27, 46, 172]) rfl mm_c_Mo_guard 0 (by decide +kernel)
set_option maxRecDepth 100000 in
theorem mm_d_Mo_wipe : ∀ e ∈ mm_c_Mo_wipe, mm_ok1 mm_m_Mo_wipe e = true := mm_wk_ok (bs := [42, 182, 0, 161, 153, 0, 6, 16, 253, 172, 42, 27, 182, 0, 176, 154, 0, 5, 2, 172, 42, 180, 0, 45, 27, 46, 61, 42, 180, 0, 45, 27, 3, 79, 42, 180, 0, 48, 27, 3, 79, 28, 172]) rfl mm_c_Mo_wipe 0 (by decide +kernel)
set_option maxRecDepth 100000 in
theorem mm_d_Mo_guardOf : ∀ e ∈ mm_c_Mo_guardOf, mm_ok1 mm_m_Mo_guardOf e = true := mm_wk_ok (bs := [5, 27, 104, 62, 29, 5, 27, 104, 42, 180, 0, 48, 27, 46, 96, 162, 0, 36, 42, 180, 0, 69, 29, 46, 28, 163, 0, 20, 28, 42, 180, 0, 72, 29, 46, 163, 0, 10, 42, 180, 0, 75, 29, 46, 172, 132, 3, 1, 167, 255, 212, 2, 172]) rfl mm_c_Mo_guardOf 0 (by decide +kernel)
set_option maxRecDepth 100000 in
theorem mm_d_Mo_pops : ∀ e ∈ mm_c_Mo_pops, mm_ok1 mm_m_Mo_pops e = true := mm_wk_ok (bs := [28, 170, 0, 0, 0, 0, 0, 122, 0, 0, 0, 3, 0, 0, 0, 17, 0, 0, 0, 75, 0, 0, 0, 75, 0, 0, 0, 75, 0, 0, 0, 77, 0, 0, 0, 122, 0, 0, 0, 75, 0, 0, 0, 75, 0, 0, 0, 77, 0, 0, 0, 79, 0, 0, 0, 75, 0, 0, 0, 122, 0, 0, 0, 75, 0, 0, 0, 75, 0, 0, 0, 101, 0, 0, 0, 75, 4, 172, 5, 172, 42, 180, 0, 39, 29, 46, 42, 180, 0, 57, 29, 51, 153, 0, 7, 3, 167, 0, 4, 4, 96, 172, 42, 180, 0, 51, 7, 27, 104, 6, 96, 46, 16, 254, 160, 0, 7, 3, 167, 0, 4, 4, 172, 3, 172]) rfl mm_c_Mo_pops 0 (by decide +kernel)
set_option maxRecDepth 100000 in
theorem mm_d_Mo_pushes : ∀ e ∈ mm_c_Mo_pushes, mm_ok1 mm_m_Mo_pushes e = true := mm_wk_ok (bs := [27, 7, 160, 0, 5, 5, 172, 27, 16, 11, 160, 0, 24, 42, 180, 0, 51, 7, 28, 104, 6, 96, 46, 16, 254, 160, 0, 7, 3, 167, 0, 4, 4, 172, 27, 5, 164, 0, 21, 27, 16, 6, 161, 0, 9, 27, 16, 9, 164, 0, 9, 27, 16, 12, 160, 0, 7, 4, 167, 0, 4, 3, 172]) rfl mm_c_Mo_pushes 0 (by decide +kernel)
set_option maxRecDepth 100000 in
theorem mm_d_Mo_wayOf : ∀ e ∈ mm_c_Mo_wayOf, mm_ok1 mm_m_Mo_wayOf e = true := mm_wk_ok (bs := [42, 180, 0, 63, 16, 20, 27, 104, 28, 96, 46, 54, 4, 29, 154, 0, 25, 21, 4, 16, 13, 159, 0, 10, 21, 4, 16, 16, 161, 0, 7, 2, 167, 0, 6, 28, 4, 96, 172, 29, 4, 160, 0, 33, 21, 4, 16, 13, 161, 0, 24, 21, 4, 16, 15, 163, 0, 17, 42, 180, 0, 66, 16, 20, 27, 104, 28, 96, 46, 167, 0, 4, 2, 172, 21, 4, 16, 11, 159, 0, 17, 21, 4, 16, 12, 159, 0, 10, 21, 4, 16, 17, 160, 0, 12, 42, 27, 28, 182, 0, 183, 167, 0, 4, 2, 172]) rfl mm_c_Mo_wayOf 0 (by decide +kernel)
set_option maxRecDepth 100000 in
theorem mm_d_Mo_isShort : ∀ e ∈ mm_c_Mo_isShort, mm_ok1 mm_m_Mo_isShort e = true := mm_wk_ok (bs := [42, 180, 0, 63, 16, 20, 27, 104, 28, 96, 46, 62, 42, 180, 0, 66, 16, 20, 27, 104, 28, 96, 46, 54, 4, 42, 180, 0, 78, 28, 46, 42, 27, 29, 21, 4, 182, 0, 186, 100, 54, 5, 21, 5, 155, 0, 17, 21, 5, 42, 29, 21, 4, 182, 0, 190, 96, 7, 164, 0, 7, 4, 167, 0, 4, 3, 172]) rfl mm_c_Mo_isShort 0 (by decide +kernel)
set_option maxRecDepth 100000 in
theorem mm_d_Mo_set : ∀ e ∈ mm_c_Mo_set, mm_ok1 mm_m_Mo_set e = true := mm_wk_ok (bs := [42, 180, 0, 108, 27, 28, 79, 42, 180, 0, 111, 27, 29, 79, 42, 180, 0, 120, 27, 21, 4, 84, 42, 180, 0, 114, 27, 21, 5, 79, 42, 180, 0, 117, 27, 2, 79, 177]) rfl mm_c_Mo_set 0 (by decide +kernel)
set_option maxRecDepth 100000 in
theorem mm_d_Mo_push : ∀ e ∈ mm_c_Mo_push, mm_ok1 mm_m_Mo_push e = true := mm_wk_ok (bs := [42, 16, 6, 42, 180, 0, 193, 96, 27, 28, 29, 21, 4, 182, 0, 196, 42, 89, 180, 0, 193, 4, 96, 181, 0, 193, 177]) rfl mm_c_Mo_push 0 (by decide +kernel)
set_option maxRecDepth 100000 in
theorem mm_d_Mo_pushSaid : ∀ e ∈ mm_c_Mo_pushSaid, mm_ok1 mm_m_Mo_pushSaid e = true := mm_wk_ok (bs := [27, 2, 160, 0, 14, 42, 4, 2, 3, 29, 182, 0, 200, 167, 0, 11, 42, 6, 27, 28, 29, 182, 0, 200, 177]) rfl mm_c_Mo_pushSaid 0 (by decide +kernel)
set_option maxRecDepth 100000 in
theorem mm_d_Mo_start : ∀ e ∈ mm_c_Mo_start, mm_ok1 mm_m_Mo_start e = true := mm_wk_ok (bs := [42, 3, 181, 0, 193, 42, 2, 181, 0, 203, 42, 3, 181, 0, 206, 3, 61, 28, 16, 6, 162, 0, 18, 42, 28, 3, 2, 3, 3, 182, 0, 196, 132, 2, 1, 167, 255, 238, 3, 61, 42, 180, 0, 57, 27, 51, 154, 0, 19, 42, 3, 6, 42, 180, 0, 33, 27, 46, 3, 3, 182, 0, 196, 4, 61, 7, 27, 104, 62, 29, 7, 27, 104, 42, 180, 0, 39, 27, 46, 96, 162, 0, 63, 42, 180, 0, 51, 29, 46, 2, 160, 0, 20, 42, 28, 4, 2, 3, 42, 180, 0, 54, 29, 46, 182, 0, 196, 167, 0, 27, 42, 28, 6, 42, 180, 0, 51, 29, 46, 42, 180, 0, 60, 29, 51, 42, 180, 0, 54, 29, 46, 182, 0, 196, 132, 2, 1, 132, 3, 1, 167, 255, 185, 177]) rfl mm_c_Mo_start 0 (by decide +kernel)
set_option maxRecDepth 100000 in
theorem mm_d_Mo_take : ∀ e ∈ mm_c_Mo_take, mm_ok1 mm_m_Mo_take e = true := mm_wk_ok (bs := [42, 42, 180, 0, 78, 27, 46, 181, 0, 193, 42, 42, 180, 0, 81, 27, 46, 181, 0, 203, 42, 42, 180, 0, 84, 27, 46, 181, 0, 206, 3, 61, 28, 16, 6, 42, 180, 0, 193, 96, 162, 0, 57, 16, 10, 27, 104, 28, 96, 62, 42, 28, 42, 180, 0, 87, 29, 46, 42, 180, 0, 90, 29, 46, 42, 180, 0, 99, 29, 51, 42, 180, 0, 93, 29, 46, 182, 0, 196, 42, 180, 0, 117, 28, 42, 180, 0, 96, 29, 46, 79, 132, 2, 1, 167, 255, 194, 177]) rfl mm_c_Mo_take 0 (by decide +kernel)
set_option maxRecDepth 100000 in
theorem mm_d_Mo_keep : ∀ e ∈ mm_c_Mo_keep, mm_ok1 mm_m_Mo_keep e = true := mm_wk_ok (bs := [16, 10, 27, 104, 28, 96, 62, 42, 180, 0, 87, 29, 42, 180, 0, 108, 28, 46, 79, 42, 180, 0, 90, 29, 42, 180, 0, 111, 28, 46, 79, 42, 180, 0, 99, 29, 42, 180, 0, 120, 28, 51, 84, 42, 180, 0, 93, 29, 42, 180, 0, 114, 28, 46, 79, 42, 180, 0, 96, 29, 28, 16, 6, 162, 0, 7, 2, 167, 0, 9, 42, 180, 0, 117, 28, 46, 79, 177]) rfl mm_c_Mo_keep 0 (by decide +kernel)
set_option maxRecDepth 100000 in
theorem mm_d_Mo_come : ∀ e ∈ mm_c_Mo_come, mm_ok1 mm_m_Mo_come e = true := mm_wk_ok (bs := [27, 42, 180, 0, 45, 42, 180, 0, 102, 46, 162, 0, 14, 42, 180, 0, 78, 27, 46, 16, 254, 160, 0, 4, 177, 28, 154, 0, 25, 42, 180, 0, 78, 27, 46, 155, 0, 30, 42, 180, 0, 78, 27, 46, 42, 180, 0, 193, 159, 0, 17, 42, 180, 0, 78, 27, 16, 254, 79, 42, 4, 181, 0, 209, 177, 42, 180, 0, 78, 27, 46, 156, 0, 64, 42, 180, 0, 78, 27, 42, 180, 0, 193, 79, 42, 180, 0, 81, 27, 42, 180, 0, 203, 79, 42, 180, 0, 84, 27, 42, 180, 0, 206, 79, 3, 62, 29, 16, 6, 42, 180, 0, 193, 96, 162, 0, 15, 42, 27, 29, 182, 0, 213, 132, 3, 1, 167, 255, 236, 42, 4, 181, 0, 209, 177, 42, 180, 0, 81, 27, 46, 42, 180, 0, 203, 160, 0, 7, 4, 167, 0, 4, 3, 62, 3, 54, 4, 21, 4, 16, 6, 42, 180, 0, 193, 96, 162, 0, 23, 42, 16, 10, 27, 104, 21, 4, 96, 21, 4, 29, 182, 0, 217, 132, 4, 1, 167, 255, 227, 29, 153, 0, 17, 42, 180, 0, 84, 27, 46, 42, 180, 0, 206, 126, 167, 0, 4, 3, 54, 4, 21, 4, 42, 180, 0, 84, 27, 46, 160, 0, 16, 29, 154, 0, 17, 42, 180, 0, 81, 27, 46, 155, 0, 8, 42, 4, 181, 0, 209, 42, 180, 0, 84, 27, 21, 4, 79, 29, 154, 0, 10, 42, 180, 0, 81, 27, 2, 79, 177]) rfl mm_c_Mo_come 0 (by decide +kernel)
set_option maxRecDepth 100000 in
theorem mm_d_Mo_join : ∀ e ∈ mm_c_Mo_join, mm_ok1 mm_m_Mo_join e = true := mm_wk_ok (bs := [42, 180, 0, 87, 27, 46, 54, 4, 42, 180, 0, 90, 27, 46, 54, 5, 21, 4, 5, 160, 0, 13, 42, 180, 0, 108, 28, 46, 6, 159, 0, 19, 21, 4, 6, 160, 0, 38, 42, 180, 0, 108, 28, 46, 5, 160, 0, 28, 21, 4, 6, 160, 0, 8, 21, 5, 167, 0, 9, 42, 180, 0, 111, 28, 46, 54, 5, 6, 54, 4, 167, 0, 63, 21, 4, 42, 180, 0, 108, 28, 46, 160, 0, 13, 21, 4, 7, 160, 0, 13, 29, 154, 0, 9, 3, 54, 4, 167, 0, 36, 21, 4, 6, 160, 0, 30, 42, 42, 180, 0, 111, 28, 46, 21, 5, 182, 0, 221, 154, 0, 15, 42, 180, 0, 13, 21, 5, 46, 54, 5, 167, 255, 232, 21, 4, 6, 162, 0, 6, 2, 54, 5, 42, 180, 0, 99, 27, 51, 154, 0, 12, 42, 180, 0, 120, 28, 51, 153, 0, 7, 4, 167, 0, 4, 3, 54, 6, 42, 180, 0, 93, 27, 46, 42, 180, 0, 114, 28, 46, 128, 54, 7, 28, 16, 6, 161, 0, 27, 42, 180, 0, 96, 27, 46, 42, 180, 0, 117, 28, 46, 160, 0, 12, 42, 180, 0, 117, 28, 46, 167, 0, 4, 2, 54, 8, 21, 4, 42, 180, 0, 87, 27, 46, 160, 0, 47, 21, 5, 42, 180, 0, 90, 27, 46, 160, 0, 36, 21, 6, 42, 180, 0, 99, 27, 51, 160, 0, 25, 21, 7, 42, 180, 0, 93, 27, 46, 160, 0, 14, 21, 8, 42, 180, 0, 96, 27, 46, 159, 0, 8, 42, 4, 181, 0, 209, 42, 180, 0, 87, 27, 21, 4, 79, 42, 180, 0, 90, 27, 21, 5, 79, 42, 180, 0, 99, 27, 21, 6, 84, 42, 180, 0, 93, 27, 21, 7, 79, 42, 180, 0, 96, 27, 21, 8, 79, 177]) rfl mm_c_Mo_join 0 (by decide +kernel)
set_option maxRecDepth 100000 in
theorem mm_d_Mo_settle : ∀ e ∈ mm_c_Mo_settle, mm_ok1 mm_m_Mo_settle e = true := mm_wk_ok (bs := [3, 61, 28, 16, 6, 42, 180, 0, 193, 96, 162, 0, 40, 42, 180, 0, 108, 28, 46, 7, 159, 0, 6, 167, 0, 21, 42, 180, 0, 108, 28, 27, 79, 27, 154, 0, 10, 42, 180, 0, 111, 28, 2, 79, 132, 2, 1, 167, 255, 211, 42, 2, 181, 0, 203, 42, 3, 181, 0, 206, 177]) rfl mm_c_Mo_settle 0 (by decide +kernel)
set_option maxRecDepth 100000 in
theorem mm_d_Mo_look : ∀ e ∈ mm_c_Mo_look, mm_ok1 mm_m_Mo_look e = true := mm_wk_ok (bs := [42, 27, 181, 0, 102, 3, 61, 28, 16, 20, 162, 0, 16, 42, 180, 0, 78, 28, 2, 79, 132, 2, 1, 167, 255, 240, 42, 180, 0, 42, 27, 46, 156, 0, 12, 42, 180, 0, 45, 27, 46, 154, 0, 4, 177, 42, 27, 182, 0, 224, 42, 3, 3, 182, 0, 228, 42, 4, 181, 0, 209, 42, 180, 0, 209, 153, 0, 45, 42, 3, 181, 0, 209, 3, 61, 28, 42, 180, 0, 45, 27, 46, 162, 0, 25, 42, 180, 0, 78, 28, 46, 2, 159, 0, 9, 42, 27, 28, 182, 0, 232, 132, 2, 1, 167, 255, 227, 167, 255, 210, 177]) rfl mm_c_Mo_look 0 (by decide +kernel)
set_option maxRecDepth 100000 in
theorem mm_d_Mo_flow : ∀ e ∈ mm_c_Mo_flow, mm_ok1 mm_m_Mo_flow e = true := mm_wk_ok (bs := [42, 180, 0, 78, 28, 46, 16, 254, 159, 0, 12, 42, 27, 28, 182, 0, 235, 153, 0, 7, 4, 167, 0, 4, 3, 62, 42, 27, 28, 3, 182, 0, 238, 54, 4, 42, 27, 28, 4, 182, 0, 238, 54, 5, 42, 27, 28, 5, 182, 0, 238, 54, 6, 2, 54, 7, 29, 153, 0, 8, 42, 3, 181, 0, 193, 21, 6, 155, 0, 32, 29, 154, 0, 21, 42, 28, 182, 0, 241, 42, 3, 181, 0, 193, 42, 6, 3, 3, 3, 182, 0, 200, 42, 21, 6, 29, 182, 0, 228, 29, 154, 0, 43, 42, 28, 182, 0, 241, 42, 180, 0, 63, 16, 20, 27, 104, 28, 96, 46, 16, 15, 160, 0, 16, 42, 180, 0, 117, 8, 42, 180, 0, 193, 96, 46, 54, 7, 42, 27, 28, 182, 0, 244, 21, 5, 155, 0, 46, 29, 154, 0, 35, 21, 7, 155, 0, 30, 42, 180, 0, 108, 21, 7, 46, 6, 160, 0, 19, 42, 180, 0, 108, 21, 7, 5, 79, 42, 180, 0, 111, 21, 7, 2, 79, 42, 21, 5, 29, 182, 0, 228, 21, 4, 156, 0, 4, 177, 29, 154, 0, 45, 21, 7, 155, 0, 40, 16, 10, 28, 104, 21, 7, 96, 54, 8, 42, 21, 7, 42, 180, 0, 87, 21, 8, 46, 42, 180, 0, 90, 21, 8, 46, 3, 42, 180, 0, 93, 21, 8, 46, 182, 0, 196, 42, 21, 4, 29, 182, 0, 228, 177]) rfl mm_c_Mo_flow 0 (by decide +kernel)
set_option maxRecDepth 100000 in
theorem mm_d_Mo_effect : ∀ e ∈ mm_c_Mo_effect, mm_ok1 mm_m_Mo_effect e = true := mm_wk_ok (bs := [42, 180, 0, 63, 16, 20, 27, 104, 28, 96, 46, 62, 42, 180, 0, 66, 16, 20, 27, 104, 28, 96, 46, 54, 4, 8, 42, 180, 0, 193, 96, 54, 5, 29, 7, 160, 0, 52, 42, 42, 180, 0, 108, 21, 5, 46, 42, 180, 0, 111, 21, 5, 46, 42, 180, 0, 120, 21, 5, 51, 42, 180, 0, 114, 21, 5, 46, 182, 0, 200, 42, 180, 0, 117, 21, 5, 4, 96, 42, 180, 0, 117, 21, 5, 46, 79, 177, 29, 16, 8, 160, 0, 24, 42, 42, 180, 0, 108, 21, 5, 46, 7, 160, 0, 7, 6, 167, 0, 4, 3, 182, 0, 247, 177, 42, 89, 180, 0, 193, 42, 27, 29, 21, 4, 182, 0, 186, 100, 181, 0, 193, 16, 6, 42, 180, 0, 193, 96, 54, 6, 29, 170, 0, 0, 0, 0, 1, 203, 0, 0, 0, 0, 0, 0, 0, 12, 0, 0, 0, 67, 0, 0, 0, 78, 0, 0, 0, 89, 0, 0, 0, 137, 0, 0, 1, 203, 0, 0, 1, 203, 0, 0, 0, 211, 0, 0, 0, 238, 0, 0, 1, 203, 0, 0, 1, 4, 0, 0, 1, 96, 0, 0, 1, 123, 0, 0, 1, 179, 42, 4, 2, 3, 3, 182, 0, 200, 167, 1, 128, 42, 5, 2, 4, 3, 182, 0, 200, 167, 1, 117, 42, 42, 180, 0, 108, 21, 4, 46, 42, 180, 0, 111, 21, 4, 46, 42, 180, 0, 120, 21, 4, 51, 42, 180, 0, 114, 21, 4, 46, 182, 0, 200, 42, 180, 0, 117, 8, 42, 180, 0, 193, 96, 21, 4, 79, 167, 1, 69, 42, 21, 4, 42, 180, 0, 108, 21, 6, 46, 42, 180, 0, 111, 21, 6, 46, 42, 180, 0, 120, 21, 6, 51, 42, 180, 0, 114, 21, 6, 46, 182, 0, 196, 16, 6, 54, 7, 21, 7, 21, 6, 162, 0, 29, 42, 180, 0, 117, 21, 7, 46, 21, 4, 160, 0, 11, 42, 180, 0, 117, 21, 7, 2, 79, 132, 7, 1, 167, 255, 226, 167, 0, 251, 42, 4, 2, 3, 42, 180, 0, 114, 21, 6, 46, 42, 180, 0, 114, 21, 6, 4, 96, 46, 128, 182, 0, 200, 167, 0, 224, 42, 3, 182, 0, 247, 42, 28, 181, 0, 203, 42, 7, 21, 4, 3, 3, 182, 0, 200, 167, 0, 202, 42, 180, 0, 108, 21, 6, 46, 153, 0, 37, 42, 180, 0, 108, 21, 6, 46, 4, 159, 0, 26, 42, 180, 0, 108, 21, 6, 46, 7, 160, 0, 19, 42, 180, 0, 206, 21, 4, 122, 4, 126, 154, 0, 7, 4, 167, 0, 4, 3, 54, 7, 42, 42, 180, 0, 20, 21, 4, 46, 42, 180, 0, 30, 21, 4, 51, 154, 0, 8, 21, 7, 153, 0, 7, 4, 167, 0, 4, 3, 42, 180, 0, 23, 21, 4, 46, 182, 0, 250, 167, 0, 110, 42, 180, 0, 108, 21, 6, 46, 7, 160, 0, 99, 42, 89, 180, 0, 206, 4, 21, 4, 120, 128, 181, 0, 206, 167, 0, 83, 42, 180, 0, 51, 7, 21, 4, 104, 6, 96, 46, 16, 254, 164, 0, 67, 42, 42, 180, 0, 51, 7, 21, 4, 104, 6, 96, 46, 42, 180, 0, 60, 7, 21, 4, 104, 6, 96, 51, 42, 180, 0, 54, 7, 21, 4, 104, 6, 96, 46, 182, 0, 250, 167, 0, 27, 42, 6, 21, 4, 42, 180, 0, 120, 21, 6, 51, 42, 180, 0, 114, 21, 6, 46, 182, 0, 200, 167, 0, 3, 177]) rfl mm_c_Mo_effect 0 (by decide +kernel)
set_option maxRecDepth 100000 in
theorem mm_d_Mo_wrongFor : ∀ e ∈ mm_c_Mo_wrongFor, mm_ok1 mm_m_Mo_wrongFor e = true := mm_wk_ok (bs := [28, 2, 160, 0, 13, 42, 180, 0, 108, 27, 46, 4, 160, 0, 16, 28, 155, 0, 14, 42, 27, 28, 182, 0, 254, 154, 0, 5, 7, 172, 28, 155, 0, 15, 42, 180, 0, 108, 27, 46, 7, 160, 0, 5, 8, 172, 28, 155, 0, 19, 42, 180, 0, 120, 27, 51, 153, 0, 10, 29, 154, 0, 6, 16, 6, 172, 42, 180, 0, 114, 27, 46, 21, 4, 2, 130, 126, 153, 0, 8, 16, 7, 167, 0, 5, 16, 9, 172]) rfl mm_c_Mo_wrongFor 0 (by decide +kernel)
set_option maxRecDepth 100000 in
theorem mm_d_Mo_isRef : ∀ e ∈ mm_c_Mo_isRef, mm_ok1 mm_m_Mo_isRef e = true := mm_wk_ok (bs := [42, 180, 0, 108, 27, 46, 5, 159, 0, 27, 42, 180, 0, 108, 27, 46, 6, 161, 0, 21, 42, 42, 180, 0, 111, 27, 46, 28, 182, 0, 221, 153, 0, 7, 4, 167, 0, 4, 3, 172]) rfl mm_c_Mo_isRef 0 (by decide +kernel)
set_option maxRecDepth 100000 in
theorem mm_d_Mo_wrongObject : ∀ e ∈ mm_c_Mo_wrongObject, mm_ok1 mm_m_Mo_wrongObject e = true := mm_wk_ok (bs := [42, 27, 28, 182, 0, 254, 154, 0, 5, 7, 172, 29, 154, 0, 15, 42, 180, 0, 108, 27, 46, 7, 160, 0, 5, 8, 172, 21, 4, 153, 0, 15, 42, 180, 0, 120, 27, 51, 153, 0, 6, 16, 6, 172, 21, 5, 153, 0, 17, 42, 180, 0, 114, 27, 46, 153, 0, 8, 16, 7, 167, 0, 5, 16, 9, 172]) rfl mm_c_Mo_wrongObject 0 (by decide +kernel)
set_option maxRecDepth 100000 in
theorem mm_d_Mo_least : ∀ e ∈ mm_c_Mo_least, mm_ok1 mm_m_Mo_least e = true := mm_wk_ok (bs := [26, 27, 162, 0, 7, 26, 167, 0, 4, 27, 172]) rfl mm_c_Mo_least 0 (by decide +kernel)
set_option maxRecDepth 100000 in
theorem mm_d_Mo_errorAt : ∀ e ∈ mm_c_Mo_errorAt, mm_ok1 mm_m_Mo_errorAt e = true := mm_wk_ok (bs := [3, 62, 29, 6, 162, 0, 27, 42, 27, 28, 29, 182, 0, 238, 42, 180, 0, 45, 27, 46, 161, 0, 5, 4, 172, 132, 3, 1, 167, 255, 230, 42, 180, 0, 78, 28, 46, 16, 254, 160, 0, 5, 5, 172, 42, 27, 28, 182, 0, 235, 153, 0, 5, 6, 172, 42, 28, 182, 0, 241, 42, 180, 0, 63, 16, 20, 27, 104, 28, 96, 46, 62, 42, 180, 0, 66, 16, 20, 27, 104, 28, 96, 46, 54, 4, 8, 42, 180, 0, 193, 96, 54, 5, 29, 170, 0, 0, 0, 1, 31, 0, 0, 0, 6, 0, 0, 0, 17, 0, 0, 0, 62, 0, 0, 1, 31, 0, 0, 0, 99, 0, 0, 0, 135, 0, 0, 0, 152, 0, 0, 0, 201, 0, 0, 0, 208, 0, 0, 1, 31, 0, 0, 0, 88, 0, 0, 0, 208, 0, 0, 0, 230, 0, 0, 0, 219, 42, 21, 5, 2, 4, 16, 15, 182, 1, 1, 42, 21, 5, 4, 100, 2, 4, 16, 15, 182, 1, 1, 184, 1, 5, 172, 42, 21, 5, 2, 4, 16, 15, 182, 1, 1, 172, 42, 180, 0, 108, 21, 5, 46, 7, 159, 0, 7, 7, 167, 0, 23, 42, 42, 180, 0, 111, 21, 5, 46, 182, 1, 8, 153, 0, 7, 8, 167, 0, 5, 16, 9, 172, 42, 21, 5, 42, 180, 0, 17, 21, 4, 46, 4, 4, 3, 182, 1, 11, 172, 42, 21, 5, 42, 180, 0, 20, 21, 4, 46, 42, 180, 0, 30, 21, 4, 51, 42, 180, 0, 23, 21, 4, 46, 182, 1, 1, 42, 21, 5, 4, 100, 42, 180, 0, 17, 21, 4, 46, 4, 4, 3, 182, 1, 11, 184, 1, 5, 172, 42, 21, 4, 182, 1, 15, 172, 42, 21, 5, 3, 3, 3, 3, 182, 1, 11, 172, 42, 21, 5, 3, 3, 4, 4, 182, 1, 11, 172, 42, 180, 0, 51, 7, 27, 104, 6, 96, 46, 16, 254, 160, 0, 8, 16, 9, 167, 0, 39, 42, 21, 5, 42, 180, 0, 51, 7, 27, 104, 6, 96, 46, 42, 180, 0, 60, 7, 27, 104, 6, 96, 51, 42, 180, 0, 54, 7, 27, 104, 6, 96, 46, 182, 1, 1, 172, 16, 9, 172]) rfl mm_c_Mo_errorAt 0 (by decide +kernel)
set_option maxRecDepth 100000 in
theorem mm_d_Mo_wrongCall : ∀ e ∈ mm_c_Mo_wrongCall, mm_ok1 mm_m_Mo_wrongCall e = true := mm_wk_ok (bs := [16, 6, 42, 180, 0, 193, 96, 42, 180, 0, 39, 27, 46, 100, 61, 16, 9, 62, 3, 54, 4, 21, 4, 42, 180, 0, 39, 27, 46, 162, 0, 59, 42, 28, 21, 4, 96, 42, 180, 0, 51, 7, 27, 104, 21, 4, 96, 46, 42, 180, 0, 60, 7, 27, 104, 21, 4, 96, 51, 42, 180, 0, 54, 7, 27, 104, 21, 4, 96, 46, 182, 1, 1, 54, 5, 29, 21, 5, 184, 1, 5, 62, 132, 4, 1, 167, 255, 192, 42, 180, 0, 57, 27, 51, 153, 0, 5, 29, 172, 42, 28, 4, 100, 42, 180, 0, 33, 27, 46, 3, 4, 4, 182, 1, 11, 54, 4, 29, 21, 4, 184, 1, 5, 172]) rfl mm_c_Mo_wrongCall 0 (by decide +kernel)
set_option maxRecDepth 100000 in
theorem mm_d_Mo_lacks : ∀ e ∈ mm_c_Mo_lacks, mm_ok1 mm_m_Mo_lacks e = true := mm_wk_ok (bs := [3, 61, 28, 42, 180, 0, 169, 162, 0, 54, 42, 27, 42, 180, 0, 17, 28, 46, 182, 0, 221, 153, 0, 34, 42, 180, 0, 20, 28, 46, 155, 0, 25, 42, 180, 0, 30, 28, 51, 154, 0, 16, 42, 180, 0, 206, 28, 122, 4, 126, 154, 0, 5, 4, 172, 132, 2, 1, 167, 255, 200, 3, 172]) rfl mm_c_Mo_lacks 0 (by decide +kernel)
set_option maxRecDepth 100000 in
theorem mm_d_Mo_isOutside : ∀ e ∈ mm_c_Mo_isOutside, mm_ok1 mm_m_Mo_isOutside e = true := mm_wk_ok (bs := [7, 27, 104, 61, 7, 27, 104, 6, 96, 62, 42, 180, 0, 42, 27, 46, 154, 0, 19, 42, 180, 0, 51, 29, 46, 2, 159, 0, 7, 4, 167, 0, 4, 3, 172, 42, 180, 0, 39, 27, 46, 154, 0, 5, 4, 172, 42, 180, 0, 42, 27, 46, 4, 160, 0, 30, 42, 180, 0, 51, 28, 46, 2, 160, 0, 14, 42, 180, 0, 51, 29, 46, 16, 254, 159, 0, 7, 4, 167, 0, 4, 3, 172, 42, 180, 0, 51, 28, 46, 2, 159, 0, 12, 42, 180, 0, 51, 29, 46, 156, 0, 24, 42, 180, 0, 51, 28, 46, 42, 180, 0, 51, 29, 46, 159, 0, 7, 4, 167, 0, 4, 3, 172, 42, 42, 180, 0, 51, 28, 46, 42, 180, 0, 51, 29, 46, 182, 0, 221, 153, 0, 21, 42, 180, 0, 60, 28, 51, 153, 0, 16, 42, 180, 0, 60, 29, 51, 154, 0, 7, 4, 167, 0, 4, 3, 172]) rfl mm_c_Mo_isOutside 0 (by decide +kernel)
set_option maxRecDepth 100000 in
theorem mm_d_Mo_inspect : ∀ e ∈ mm_c_Mo_inspect, mm_ok1 mm_m_Mo_inspect e = true := mm_wk_ok (bs := [42, 27, 182, 1, 19, 42, 16, 32, 27, 104, 16, 31, 96, 181, 0, 105, 42, 180, 0, 42, 27, 46, 155, 0, 18, 42, 27, 182, 1, 22, 153, 0, 8, 16, 9, 167, 0, 4, 3, 172, 42, 180, 0, 45, 27, 46, 154, 0, 6, 16, 8, 172, 3, 61, 28, 42, 180, 0, 45, 27, 46, 162, 0, 50, 42, 180, 0, 78, 28, 46, 2, 160, 0, 6, 167, 0, 31, 42, 27, 28, 182, 1, 25, 62, 29, 16, 9, 160, 0, 6, 167, 0, 15, 42, 16, 32, 27, 104, 28, 96, 181, 0, 105, 29, 172, 132, 2, 1, 167, 255, 202, 3, 172]) rfl mm_c_Mo_inspect 0 (by decide +kernel)
set_option maxRecDepth 100000 in
theorem mm_d_Mo_check : ∀ e ∈ mm_c_Mo_check, mm_ok1 mm_m_Mo_check e = true := mm_wk_ok (bs := [42, 27, 182, 0, 176, 154, 0, 5, 2, 172, 42, 27, 182, 1, 28, 61, 28, 154, 0, 8, 42, 2, 181, 0, 105, 28, 172]) rfl mm_c_Mo_check 0 (by decide +kernel)
set_option maxRecDepth 100000 in
theorem mm_d_Mo_parts : ∀ e ∈ mm_c_Mo_parts, mm_ok1 mm_m_Mo_parts e = true := mm_wk_ok (bs := [42, 180, 0, 51, 27, 46, 155, 0, 12, 42, 180, 0, 51, 28, 46, 156, 0, 54, 42, 180, 0, 51, 27, 46, 42, 180, 0, 51, 28, 46, 159, 0, 5, 4, 172, 42, 180, 0, 51, 27, 46, 2, 160, 0, 25, 42, 180, 0, 54, 27, 46, 42, 180, 0, 54, 28, 46, 2, 130, 126, 153, 0, 7, 4, 167, 0, 4, 3, 172, 42, 42, 180, 0, 51, 27, 46, 42, 180, 0, 51, 28, 46, 182, 0, 221, 153, 0, 39, 42, 180, 0, 60, 27, 51, 153, 0, 12, 42, 180, 0, 60, 28, 51, 153, 0, 21, 42, 180, 0, 54, 27, 46, 42, 180, 0, 54, 28, 46, 2, 130, 126, 153, 0, 7, 4, 167, 0, 4, 3, 172]) rfl mm_c_Mo_parts 0 (by decide +kernel)
set_option maxRecDepth 100000 in
theorem mm_d_Mo_varies : ∀ e ∈ mm_c_Mo_varies, mm_ok1 mm_m_Mo_varies e = true := mm_wk_ok (bs := [42, 180, 0, 13, 42, 180, 0, 33, 27, 46, 46, 156, 0, 7, 2, 167, 0, 24, 42, 42, 180, 0, 13, 42, 180, 0, 33, 27, 46, 46, 42, 180, 0, 36, 27, 46, 182, 1, 31, 61, 28, 156, 0, 5, 3, 172, 42, 180, 0, 57, 27, 51, 154, 0, 27, 42, 180, 0, 57, 28, 51, 154, 0, 18, 42, 180, 0, 39, 27, 46, 42, 180, 0, 39, 28, 46, 159, 0, 5, 4, 172, 3, 62, 29, 42, 180, 0, 39, 27, 46, 162, 0, 32, 42, 7, 28, 104, 29, 96, 7, 27, 104, 29, 96, 182, 1, 34, 54, 4, 21, 4, 153, 0, 5, 4, 172, 132, 3, 1, 167, 255, 220, 42, 7, 27, 104, 6, 96, 7, 28, 104, 6, 96, 182, 1, 34, 172]) rfl mm_c_Mo_varies 0 (by decide +kernel)
set_option maxRecDepth 100000 in
theorem mm_d_Mo_load : ∀ e ∈ mm_c_Mo_load, mm_ok1 mm_m_Mo_load e = true := mm_wk_ok (bs := [42, 27, 182, 0, 157, 153, 0, 12, 42, 180, 0, 26, 27, 51, 153, 0, 5, 2, 172, 27, 158, 0, 20, 42, 180, 0, 26, 42, 180, 0, 13, 27, 46, 51, 154, 0, 6, 16, 252, 172, 3, 61, 28, 42, 180, 0, 154, 162, 0, 61, 42, 180, 0, 33, 28, 46, 27, 159, 0, 6, 167, 0, 42, 42, 28, 182, 1, 37, 62, 29, 153, 0, 17, 42, 16, 32, 28, 104, 16, 31, 96, 181, 0, 105, 16, 10, 172, 42, 28, 182, 1, 28, 54, 4, 21, 4, 158, 0, 6, 21, 4, 172, 132, 2, 1, 167, 255, 193, 42, 180, 0, 26, 27, 4, 84, 42, 2, 181, 0, 105, 3, 172]) rfl mm_c_Mo_load 0 (by decide +kernel)
set_option maxRecDepth 100000 in
theorem mm_d_Mo_isLoaded : ∀ e ∈ mm_c_Mo_isLoaded, mm_ok1 mm_m_Mo_isLoaded e = true := mm_wk_ok (bs := [42, 27, 182, 0, 157, 153, 0, 16, 42, 180, 0, 26, 27, 51, 153, 0, 7, 4, 167, 0, 4, 3, 172]) rfl mm_c_Mo_isLoaded 0 (by decide +kernel)
set_option maxRecDepth 100000 in
theorem mm_d_Mo_place : ∀ e ∈ mm_c_Mo_place, mm_ok1 mm_m_Mo_place e = true := mm_wk_ok (bs := [42, 180, 0, 105, 172]) rfl mm_c_Mo_place 0 (by decide +kernel)
set_option maxRecDepth 100000 in
theorem mm_d_Mo_frame : ∀ e ∈ mm_c_Mo_frame, mm_ok1 mm_m_Mo_frame e = true := mm_wk_ok (bs := [27, 3, 16, 19, 184, 0, 150, 153, 0, 12, 42, 180, 0, 78, 27, 46, 167, 0, 4, 2, 54, 4, 42, 180, 0, 102, 156, 0, 6, 2, 54, 4, 28, 2, 160, 0, 10, 29, 154, 0, 6, 21, 4, 172, 21, 4, 155, 0, 15, 28, 2, 8, 21, 4, 96, 184, 0, 150, 154, 0, 5, 2, 172, 16, 10, 27, 104, 28, 96, 54, 5, 28, 2, 160, 0, 33, 29, 4, 160, 0, 12, 42, 180, 0, 81, 27, 46, 167, 0, 18, 29, 5, 160, 0, 12, 42, 180, 0, 84, 27, 46, 167, 0, 4, 2, 172, 29, 170, 0, 0, 0, 81, 0, 0, 0, 0, 0, 0, 0, 4, 0, 0, 0, 33, 0, 0, 0, 41, 0, 0, 0, 49, 0, 0, 0, 65, 0, 0, 0, 73, 42, 180, 0, 87, 21, 5, 46, 172, 42, 180, 0, 90, 21, 5, 46, 172, 42, 180, 0, 99, 21, 5, 51, 153, 0, 7, 4, 167, 0, 4, 3, 172, 42, 180, 0, 93, 21, 5, 46, 172, 42, 180, 0, 96, 21, 5, 46, 172, 2, 172]) rfl mm_c_Mo_frame 0 (by decide +kernel)
set_option maxRecDepth 100000 in
theorem mm_d_Mo_input : ∀ e ∈ mm_c_Mo_input, mm_ok1 mm_m_Mo_input e = true := mm_wk_ok (bs := [42, 180, 1, 40, 16, 8, 160, 0, 6, 16, 254, 172, 42, 180, 0, 123, 42, 180, 1, 40, 27, 79, 42, 89, 180, 1, 40, 4, 96, 181, 1, 40, 42, 180, 1, 40, 172]) rfl mm_c_Mo_input 0 (by decide +kernel)
set_option maxRecDepth 100000 in
theorem mm_d_Mo_run : ∀ e ∈ mm_c_Mo_run, mm_ok1 mm_m_Mo_run e = true := mm_wk_ok (bs := [42, 27, 182, 0, 176, 153, 0, 45, 42, 180, 0, 57, 27, 51, 153, 0, 36, 42, 180, 0, 42, 27, 46, 156, 0, 27, 42, 180, 0, 26, 42, 180, 0, 33, 27, 46, 51, 153, 0, 13, 42, 180, 0, 39, 27, 46, 5, 164, 0, 5, 2, 172, 7, 27, 104, 54, 4, 21, 4, 7, 27, 104, 42, 180, 0, 39, 27, 46, 96, 162, 0, 22, 42, 180, 0, 51, 21, 4, 46, 2, 159, 0, 5, 2, 172, 132, 4, 1, 167, 255, 225, 42, 3, 181, 1, 43, 42, 3, 181, 1, 46, 42, 3, 181, 1, 49, 42, 3, 181, 1, 52, 42, 3, 181, 1, 55, 42, 3, 181, 1, 58, 42, 2, 181, 1, 61, 42, 3, 181, 1, 64, 42, 27, 182, 1, 67, 42, 180, 0, 39, 27, 46, 158, 0, 10, 42, 180, 0, 132, 3, 28, 79, 42, 180, 0, 39, 27, 46, 4, 164, 0, 10, 42, 180, 0, 132, 4, 29, 79, 42, 180, 1, 61, 156, 0, 38, 42, 180, 1, 52, 17, 1, 144, 160, 0, 11, 42, 7, 181, 1, 61, 167, 255, 234, 42, 89, 180, 1, 52, 4, 96, 181, 1, 52, 42, 182, 1, 70, 167, 255, 217, 42, 180, 1, 61, 172]) rfl mm_c_Mo_run 0 (by decide +kernel)
set_option maxRecDepth 100000 in
theorem mm_d_Mo_enter : ∀ e ∈ mm_c_Mo_enter, mm_ok1 mm_m_Mo_enter e = true := mm_wk_ok (bs := [42, 180, 0, 144, 42, 180, 1, 55, 27, 79, 42, 180, 0, 141, 42, 180, 1, 55, 3, 79, 42, 180, 0, 138, 42, 180, 1, 55, 3, 79, 3, 61, 28, 16, 6, 162, 0, 24, 42, 180, 0, 132, 16, 6, 42, 180, 1, 55, 104, 28, 96, 3, 79, 132, 2, 1, 167, 255, 232, 42, 89, 180, 1, 55, 4, 96, 181, 1, 55, 42, 180, 1, 55, 42, 180, 1, 58, 164, 0, 11, 42, 42, 180, 1, 55, 181, 1, 58, 177]) rfl mm_c_Mo_enter 0 (by decide +kernel)
set_option maxRecDepth 100000 in
theorem mm_d_Mo_pull : ∀ e ∈ mm_c_Mo_pull, mm_ok1 mm_m_Mo_pull e = true := mm_wk_ok (bs := [42, 180, 0, 138, 42, 180, 1, 55, 4, 100, 92, 46, 4, 100, 79, 42, 180, 0, 135, 7, 42, 180, 1, 55, 4, 100, 104, 42, 180, 0, 138, 42, 180, 1, 55, 4, 100, 46, 96, 46, 172]) rfl mm_c_Mo_pull 0 (by decide +kernel)
set_option maxRecDepth 100000 in
theorem mm_d_Mo_lay : ∀ e ∈ mm_c_Mo_lay, mm_ok1 mm_m_Mo_lay e = true := mm_wk_ok (bs := [42, 180, 0, 135, 7, 42, 180, 1, 55, 4, 100, 104, 42, 180, 0, 138, 42, 180, 1, 55, 4, 100, 46, 96, 27, 79, 42, 180, 0, 138, 42, 180, 1, 55, 4, 100, 92, 46, 4, 96, 79, 177]) rfl mm_c_Mo_lay 0 (by decide +kernel)
set_option maxRecDepth 100000 in
theorem mm_d_Mo_step : ∀ e ∈ mm_c_Mo_step, mm_ok1 mm_m_Mo_step e = true := mm_wk_ok (bs := [42, 180, 1, 55, 4, 100, 60, 42, 180, 0, 144, 27, 46, 61, 42, 180, 0, 141, 27, 46, 62, 42, 180, 0, 63, 16, 20, 28, 104, 29, 96, 46, 54, 4, 42, 180, 0, 66, 16, 20, 28, 104, 29, 96, 46, 54, 5, 42, 180, 0, 141, 27, 29, 4, 96, 79, 21, 4, 6, 161, 0, 10, 21, 4, 16, 6, 164, 0, 45, 21, 4, 16, 9, 161, 0, 10, 21, 4, 16, 10, 164, 0, 31, 21, 4, 16, 12, 159, 0, 24, 21, 4, 16, 14, 159, 0, 17, 21, 4, 16, 15, 159, 0, 10, 21, 4, 16, 17, 160, 0, 10, 42, 182, 1, 73, 167, 0, 4, 3, 54, 6, 21, 4, 170, 0, 0, 1, 106, 0, 0, 0, 0, 0, 0, 0, 17, 0, 0, 0, 85, 0, 0, 0, 94, 0, 0, 0, 102, 0, 0, 0, 121, 0, 0, 0, 138, 0, 0, 1, 106, 0, 0, 0, 153, 0, 0, 0, 171, 0, 0, 1, 106, 0, 0, 0, 180, 0, 0, 0, 216, 0, 0, 1, 0, 0, 0, 1, 9, 0, 0, 1, 48, 0, 0, 1, 59, 0, 0, 1, 59, 0, 0, 1, 75, 0, 0, 1, 83, 42, 21, 5, 182, 1, 77, 167, 1, 15, 42, 3, 182, 1, 77, 167, 1, 7, 42, 42, 180, 0, 132, 16, 6, 27, 104, 21, 5, 96, 46, 182, 1, 77, 167, 0, 244, 42, 180, 0, 132, 16, 6, 27, 104, 21, 5, 96, 21, 6, 79, 167, 0, 227, 42, 21, 6, 182, 1, 77, 42, 21, 6, 182, 1, 77, 167, 0, 212, 42, 182, 1, 73, 54, 7, 42, 21, 7, 21, 6, 96, 182, 1, 77, 167, 0, 194, 42, 21, 5, 182, 1, 80, 167, 0, 185, 21, 6, 154, 0, 12, 42, 16, 6, 181, 1, 61, 167, 0, 171, 42, 42, 180, 0, 129, 16, 12, 21, 6, 4, 100, 104, 21, 5, 96, 46, 182, 1, 77, 167, 0, 149, 42, 182, 1, 73, 54, 8, 21, 8, 154, 0, 12, 42, 16, 6, 181, 1, 61, 167, 0, 129, 42, 180, 0, 129, 16, 12, 21, 8, 4, 100, 104, 21, 5, 96, 21, 6, 79, 167, 0, 109, 42, 21, 5, 182, 1, 83, 167, 0, 100, 21, 6, 153, 0, 19, 42, 42, 180, 0, 126, 21, 6, 46, 21, 5, 182, 0, 221, 153, 0, 12, 42, 21, 6, 182, 1, 77, 167, 0, 70, 42, 21, 6, 182, 1, 86, 167, 0, 61, 42, 180, 0, 141, 27, 21, 5, 79, 167, 0, 50, 21, 6, 154, 0, 45, 42, 180, 0, 141, 27, 21, 5, 79, 167, 0, 34, 42, 28, 182, 1, 89, 167, 0, 26, 21, 6, 154, 0, 12, 42, 16, 6, 181, 1, 61, 167, 0, 12, 42, 21, 6, 182, 1, 86, 167, 0, 3, 177]) rfl mm_c_Mo_step 0 (by decide +kernel)
set_option maxRecDepth 100000 in
theorem mm_d_Mo_make : ∀ e ∈ mm_c_Mo_make, mm_ok1 mm_m_Mo_make e = true := mm_wk_ok (bs := [42, 180, 0, 26, 27, 51, 154, 0, 11, 42, 8, 181, 1, 61, 167, 0, 17, 42, 180, 1, 43, 16, 24, 160, 0, 8, 42, 5, 181, 1, 61, 42, 180, 1, 61, 155, 0, 4, 177, 42, 89, 180, 1, 43, 4, 96, 181, 1, 43, 42, 180, 0, 126, 42, 180, 1, 43, 27, 79, 3, 61, 28, 16, 12, 162, 0, 26, 42, 180, 0, 129, 16, 12, 42, 180, 1, 43, 4, 100, 104, 28, 96, 3, 79, 132, 2, 1, 167, 255, 230, 42, 42, 180, 1, 43, 182, 1, 77, 177]) rfl mm_c_Mo_make 0 (by decide +kernel)
set_option maxRecDepth 100000 in
theorem mm_d_Mo_call : ∀ e ∈ mm_c_Mo_call, mm_ok1 mm_m_Mo_call e = true := mm_wk_ok (bs := [42, 180, 1, 55, 4, 100, 61, 42, 180, 0, 39, 27, 46, 42, 180, 0, 57, 27, 51, 153, 0, 7, 3, 167, 0, 4, 4, 96, 62, 7, 28, 104, 42, 180, 0, 138, 28, 46, 96, 29, 100, 54, 4, 27, 54, 5, 42, 180, 0, 57, 27, 51, 154, 0, 44, 42, 180, 0, 135, 21, 4, 46, 154, 0, 10, 42, 16, 6, 181, 1, 61, 177, 42, 42, 180, 0, 126, 42, 180, 0, 135, 21, 4, 46, 46, 42, 180, 0, 36, 27, 46, 182, 1, 31, 54, 5, 42, 180, 0, 26, 42, 180, 0, 33, 21, 5, 46, 51, 154, 0, 11, 42, 8, 181, 1, 61, 167, 0, 27, 42, 180, 0, 42, 21, 5, 46, 156, 0, 17, 42, 180, 1, 55, 16, 6, 160, 0, 8, 42, 6, 181, 1, 61, 42, 180, 1, 61, 155, 0, 4, 177, 42, 180, 0, 138, 28, 92, 46, 29, 100, 79, 42, 180, 0, 42, 21, 5, 46, 155, 0, 49, 42, 180, 0, 39, 27, 46, 158, 0, 28, 42, 180, 0, 135, 21, 4, 42, 180, 0, 57, 27, 51, 153, 0, 7, 3, 167, 0, 4, 4, 96, 46, 167, 0, 4, 3, 54, 6, 42, 21, 5, 21, 6, 182, 1, 92, 177, 42, 21, 5, 182, 1, 67, 3, 54, 6, 21, 6, 29, 162, 0, 36, 42, 180, 0, 132, 16, 6, 42, 180, 1, 55, 4, 100, 104, 21, 6, 96, 42, 180, 0, 135, 21, 4, 21, 6, 96, 46, 79, 132, 6, 1, 167, 255, 220, 177]) rfl mm_c_Mo_call 0 (by decide +kernel)
set_option maxRecDepth 100000 in
theorem mm_d_Mo_outside : ∀ e ∈ mm_c_Mo_outside, mm_ok1 mm_m_Mo_outside e = true := mm_wk_ok (bs := [42, 180, 0, 42, 27, 46, 154, 0, 44, 42, 42, 180, 1, 46, 42, 180, 1, 40, 162, 0, 15, 42, 180, 0, 123, 42, 180, 1, 46, 46, 167, 0, 4, 3, 182, 1, 77, 42, 89, 180, 1, 46, 4, 96, 181, 1, 46, 167, 0, 50, 42, 180, 0, 42, 27, 46, 4, 160, 0, 35, 42, 180, 1, 49, 16, 16, 162, 0, 13, 42, 180, 0, 147, 42, 180, 1, 49, 28, 79, 42, 89, 180, 1, 49, 4, 96, 181, 1, 49, 167, 0, 8, 42, 28, 182, 1, 77, 177]) rfl mm_c_Mo_outside 0 (by decide +kernel)
set_option maxRecDepth 100000 in
theorem mm_d_Mo_give : ∀ e ∈ mm_c_Mo_give, mm_ok1 mm_m_Mo_give e = true := mm_wk_ok (bs := [42, 180, 0, 51, 7, 27, 104, 6, 96, 46, 61, 28, 16, 254, 160, 0, 7, 3, 167, 0, 7, 42, 182, 1, 73, 62, 42, 89, 180, 1, 55, 4, 100, 181, 1, 55, 42, 180, 1, 55, 154, 0, 37, 42, 3, 181, 1, 61, 42, 28, 156, 0, 7, 29, 167, 0, 17, 29, 154, 0, 7, 2, 167, 0, 9, 42, 180, 0, 126, 29, 46, 181, 1, 64, 167, 0, 14, 28, 16, 254, 164, 0, 8, 42, 29, 182, 1, 77, 177]) rfl mm_c_Mo_give 0 (by decide +kernel)
set_option maxRecDepth 100000 in
theorem mm_d_Mo_raise : ∀ e ∈ mm_c_Mo_raise, mm_ok1 mm_m_Mo_raise e = true := mm_wk_ok (bs := [42, 180, 1, 55, 158, 0, 66, 42, 180, 1, 55, 4, 100, 61, 42, 42, 180, 0, 144, 28, 46, 42, 180, 0, 141, 28, 46, 4, 100, 182, 0, 183, 62, 29, 155, 0, 23, 42, 180, 0, 138, 28, 3, 79, 42, 27, 182, 1, 77, 42, 180, 0, 141, 28, 29, 79, 177, 42, 89, 180, 1, 55, 4, 100, 181, 1, 55, 167, 255, 189, 42, 4, 181, 1, 61, 42, 42, 180, 0, 126, 27, 46, 181, 1, 64, 177]) rfl mm_c_Mo_raise 0 (by decide +kernel)
set_option maxRecDepth 100000 in
theorem mm_d_Mo_value : ∀ e ∈ mm_c_Mo_value, mm_ok1 mm_m_Mo_value e = true := mm_wk_ok (bs := [42, 180, 1, 64, 172]) rfl mm_c_Mo_value 0 (by decide +kernel)
set_option maxRecDepth 100000 in
theorem mm_d_Mo_output : ∀ e ∈ mm_c_Mo_output, mm_ok1 mm_m_Mo_output e = true := mm_wk_ok (bs := [27, 3, 16, 15, 184, 0, 150, 153, 0, 20, 27, 42, 180, 1, 49, 162, 0, 12, 42, 180, 0, 147, 27, 46, 167, 0, 4, 3, 172]) rfl mm_c_Mo_output 0 (by decide +kernel)
set_option maxRecDepth 100000 in
theorem mm_d_Mo_told : ∀ e ∈ mm_c_Mo_told, mm_ok1 mm_m_Mo_told e = true := mm_wk_ok (bs := [27, 170, 0, 0, 0, 0, 0, 60, 0, 0, 0, 0, 0, 0, 0, 4, 0, 0, 0, 35, 0, 0, 0, 40, 0, 0, 0, 45, 0, 0, 0, 50, 0, 0, 0, 55, 42, 180, 1, 52, 172, 42, 180, 1, 43, 172, 42, 180, 1, 49, 172, 42, 180, 1, 46, 172, 42, 180, 1, 58, 172, 2, 172]) rfl mm_c_Mo_told 0 (by decide +kernel)
set_option maxRecDepth 100000 in
theorem mm_d_La_law : ∀ e ∈ mm_c_La_law, mm_ok1 mm_m_La_law e = true := mm_wk_ok (bs := [187, 0, 7, 89, 183, 0, 9, 76, 187, 0, 10, 89, 183, 0, 12, 77, 3, 62, 29, 42, 190, 8, 100, 163, 3, 30, 42, 29, 46, 16, 31, 126, 170, 0, 0, 0, 0, 0, 3, 15, 0, 0, 0, 0, 0, 0, 0, 18, 0, 0, 0, 92, 0, 0, 0, 115, 0, 0, 0, 184, 0, 0, 0, 243, 0, 0, 1, 56, 0, 0, 1, 125, 0, 0, 1, 158, 0, 0, 1, 201, 0, 0, 1, 254, 0, 0, 2, 21, 0, 0, 2, 44, 0, 0, 2, 67, 0, 0, 2, 90, 0, 0, 2, 103, 0, 0, 2, 146, 0, 0, 2, 169, 0, 0, 2, 212, 0, 0, 2, 225, 0, 0, 2, 248, 43, 42, 29, 4, 96, 46, 182, 0, 13, 44, 42, 29, 4, 96, 46, 182, 0, 17, 159, 2, 161, 3, 172, 43, 42, 29, 4, 96, 46, 42, 29, 5, 96, 46, 42, 29, 6, 96, 46, 153, 0, 7, 4, 167, 0, 4, 3, 42, 29, 7, 96, 46, 182, 0, 18, 44, 42, 29, 4, 96, 46, 42, 29, 5, 96, 46, 42, 29, 6, 96, 46, 153, 0, 7, 4, 167, 0, 4, 3, 42, 29, 7, 96, 46, 182, 0, 22, 159, 2, 92, 3, 172, 43, 42, 29, 4, 96, 46, 42, 29, 5, 96, 46, 42, 29, 6, 96, 46, 153, 0, 7, 4, 167, 0, 4, 3, 182, 0, 23, 44, 42, 29, 4, 96, 46, 42, 29, 5, 96, 46, 42, 29, 6, 96, 46, 153, 0, 7, 4, 167, 0, 4, 3, 182, 0, 27, 159, 2, 33, 3, 172, 43, 42, 29, 4, 96, 46, 42, 29, 5, 96, 46, 42, 29, 6, 96, 46, 153, 0, 7, 4, 167, 0, 4, 3, 42, 29, 7, 96, 46, 182, 0, 28, 44, 42, 29, 4, 96, 46, 42, 29, 5, 96, 46, 42, 29, 6, 96, 46, 153, 0, 7, 4, 167, 0, 4, 3, 42, 29, 7, 96, 46, 182, 0, 31, 159, 1, 220, 3, 172, 43, 42, 29, 4, 96, 46, 42, 29, 5, 96, 46, 42, 29, 6, 96, 46, 153, 0, 7, 4, 167, 0, 4, 3, 42, 29, 7, 96, 46, 182, 0, 32, 44, 42, 29, 4, 96, 46, 42, 29, 5, 96, 46, 42, 29, 6, 96, 46, 153, 0, 7, 4, 167, 0, 4, 3, 42, 29, 7, 96, 46, 182, 0, 36, 159, 1, 151, 3, 172, 43, 42, 29, 4, 96, 46, 42, 29, 5, 96, 46, 182, 0, 37, 44, 42, 29, 4, 96, 46, 42, 29, 5, 96, 46, 182, 0, 41, 159, 1, 118, 3, 172, 43, 42, 29, 4, 96, 46, 42, 29, 5, 96, 46, 42, 29, 6, 96, 46, 182, 0, 42, 44, 42, 29, 4, 96, 46, 42, 29, 5, 96, 46, 42, 29, 6, 96, 46, 182, 0, 46, 159, 1, 75, 3, 172, 43, 42, 29, 4, 96, 46, 42, 29, 5, 96, 46, 42, 29, 6, 96, 46, 42, 29, 7, 96, 46, 182, 0, 47, 44, 42, 29, 4, 96, 46, 42, 29, 5, 96, 46, 42, 29, 6, 96, 46, 42, 29, 7, 96, 46, 182, 0, 51, 159, 1, 22, 3, 172, 43, 42, 29, 4, 96, 46, 182, 0, 52, 44, 42, 29, 4, 96, 46, 182, 0, 55, 159, 0, 255, 3, 172, 43, 42, 29, 4, 96, 46, 182, 0, 56, 44, 42, 29, 4, 96, 46, 182, 0, 59, 159, 0, 232, 3, 172, 43, 42, 29, 4, 96, 46, 182, 0, 60, 44, 42, 29, 4, 96, 46, 182, 0, 63, 159, 0, 209, 3, 172, 43, 42, 29, 4, 96, 46, 182, 0, 64, 44, 42, 29, 4, 96, 46, 182, 0, 68, 159, 0, 186, 3, 172, 43, 182, 0, 69, 44, 182, 0, 73, 159, 0, 173, 3, 172, 43, 42, 29, 4, 96, 46, 42, 29, 5, 96, 46, 42, 29, 6, 96, 46, 182, 0, 74, 44, 42, 29, 4, 96, 46, 42, 29, 5, 96, 46, 42, 29, 6, 96, 46, 182, 0, 77, 159, 0, 130, 3, 172, 43, 42, 29, 4, 96, 46, 182, 0, 78, 44, 42, 29, 4, 96, 46, 182, 0, 81, 159, 0, 107, 3, 172, 43, 42, 29, 4, 96, 46, 42, 29, 5, 96, 46, 42, 29, 6, 96, 46, 182, 0, 82, 44, 42, 29, 4, 96, 46, 42, 29, 5, 96, 46, 42, 29, 6, 96, 46, 182, 0, 85, 159, 0, 64, 3, 172, 43, 182, 0, 86, 44, 182, 0, 89, 159, 0, 51, 3, 172, 43, 42, 29, 4, 96, 46, 182, 0, 90, 44, 42, 29, 4, 96, 46, 182, 0, 93, 159, 0, 28, 3, 172, 43, 42, 29, 4, 96, 46, 182, 0, 94, 44, 42, 29, 4, 96, 46, 182, 0, 97, 159, 0, 5, 3, 172, 132, 3, 5, 167, 252, 224, 4, 172]) rfl mm_c_La_law 0 (by decide +kernel)
end
section
set_option maxRecDepth 100000 in
theorem mm_e_Op_goesOn : mm_ok2 mm_m_Op_goesOn := ⟨rfl, by decide +kernel, by decide +kernel, by decide +kernel, by decide +kernel⟩
set_option maxRecDepth 100000 in
theorem mm_e_Op_jumps : mm_ok2 mm_m_Op_jumps := ⟨rfl, by decide +kernel, by decide +kernel, by decide +kernel, by decide +kernel⟩
set_option maxRecDepth 100000 in
theorem mm_e_Op_mayThrow : mm_ok2 mm_m_Op_mayThrow := ⟨rfl, by decide +kernel, by decide +kernel, by decide +kernel, by decide +kernel⟩
set_option maxRecDepth 100000 in
theorem mm_e_Va_of : mm_ok2 mm_m_Va_of := ⟨rfl, by decide +kernel, by decide +kernel, by decide +kernel, by decide +kernel⟩
set_option maxRecDepth 100000 in
theorem mm_e_Va_ofPlace : mm_ok2 mm_m_Va_ofPlace := ⟨rfl, by decide +kernel, by decide +kernel, by decide +kernel, by decide +kernel⟩
set_option maxRecDepth 100000 in
theorem mm_e_Va_kind : mm_ok2 mm_m_Va_kind := ⟨rfl, by decide +kernel, by decide +kernel, by decide +kernel, by decide +kernel⟩
set_option maxRecDepth 100000 in
theorem mm_e_Va_classOf : mm_ok2 mm_m_Va_classOf := ⟨rfl, by decide +kernel, by decide +kernel, by decide +kernel, by decide +kernel⟩
set_option maxRecDepth 100000 in
theorem mm_e_Va_may : mm_ok2 mm_m_Va_may := ⟨rfl, by decide +kernel, by decide +kernel, by decide +kernel, by decide +kernel⟩
set_option maxRecDepth 100000 in
theorem mm_e_Va_marks : mm_ok2 mm_m_Va_marks := ⟨rfl, by decide +kernel, by decide +kernel, by decide +kernel, by decide +kernel⟩
set_option maxRecDepth 100000 in
theorem mm_e_Va_origin : mm_ok2 mm_m_Va_origin := ⟨rfl, by decide +kernel, by decide +kernel, by decide +kernel, by decide +kernel⟩
set_option maxRecDepth 100000 in
theorem mm_e_Va_withOrigin : mm_ok2 mm_m_Va_withOrigin := ⟨rfl, by decide +kernel, by decide +kernel, by decide +kernel, by decide +kernel⟩
set_option maxRecDepth 100000 in
theorem mm_e_Va_withKind : mm_ok2 mm_m_Va_withKind := ⟨rfl, by decide +kernel, by decide +kernel, by decide +kernel, by decide +kernel⟩
set_option maxRecDepth 100000 in
theorem mm_e_Va_notNull : mm_ok2 mm_m_Va_notNull := ⟨rfl, by decide +kernel, by decide +kernel, by decide +kernel, by decide +kernel⟩
set_option maxRecDepth 100000 in
theorem mm_e_Va_join : mm_ok2 mm_m_Va_join := ⟨rfl, by decide +kernel, by decide +kernel, by decide +kernel, by decide +kernel⟩
set_option maxRecDepth 100000 in
theorem mm_e_Va_part : mm_ok2 mm_m_Va_part := ⟨rfl, by decide +kernel, by decide +kernel, by decide +kernel, by decide +kernel⟩
set_option maxRecDepth 100000 in
theorem mm_e_Pl_init : mm_ok2 mm_m_Pl_init := ⟨rfl, by decide +kernel, by decide +kernel, by decide +kernel, by decide +kernel⟩
set_option maxRecDepth 100000 in
theorem mm_e_Pl_become : mm_ok2 mm_m_Pl_become := ⟨rfl, by decide +kernel, by decide +kernel, by decide +kernel, by decide +kernel⟩
set_option maxRecDepth 100000 in
theorem mm_e_Me_init : mm_ok2 mm_m_Me_init := ⟨rfl, by decide +kernel, by decide +kernel, by decide +kernel, by decide +kernel⟩
set_option maxRecDepth 100000 in
theorem mm_e_Me_addParam : mm_ok2 mm_m_Me_addParam := ⟨rfl, by decide +kernel, by decide +kernel, by decide +kernel, by decide +kernel⟩
set_option maxRecDepth 100000 in
theorem mm_e_Me_addInstruction : mm_ok2 mm_m_Me_addInstruction := ⟨rfl, by decide +kernel, by decide +kernel, by decide +kernel, by decide +kernel⟩
set_option maxRecDepth 100000 in
theorem mm_e_Me_addGuard : mm_ok2 mm_m_Me_addGuard := ⟨rfl, by decide +kernel, by decide +kernel, by decide +kernel, by decide +kernel⟩
set_option maxRecDepth 100000 in
theorem mm_e_Me_clear : mm_ok2 mm_m_Me_clear := ⟨rfl, by decide +kernel, by decide +kernel, by decide +kernel, by decide +kernel⟩
set_option maxRecDepth 100000 in
theorem mm_e_Me_isBuiltIn : mm_ok2 mm_m_Me_isBuiltIn := ⟨rfl, by decide +kernel, by decide +kernel, by decide +kernel, by decide +kernel⟩
set_option maxRecDepth 100000 in
theorem mm_e_Me_gives : mm_ok2 mm_m_Me_gives := ⟨rfl, by decide +kernel, by decide +kernel, by decide +kernel, by decide +kernel⟩
set_option maxRecDepth 100000 in
theorem mm_e_Me_takes : mm_ok2 mm_m_Me_takes := ⟨rfl, by decide +kernel, by decide +kernel, by decide +kernel, by decide +kernel⟩
set_option maxRecDepth 100000 in
theorem mm_e_Me_firstParam : mm_ok2 mm_m_Me_firstParam := ⟨rfl, by decide +kernel, by decide +kernel, by decide +kernel, by decide +kernel⟩
set_option maxRecDepth 100000 in
theorem mm_e_Me_caughtAt : mm_ok2 mm_m_Me_caughtAt := ⟨rfl, by decide +kernel, by decide +kernel, by decide +kernel, by decide +kernel⟩
set_option maxRecDepth 100000 in
theorem mm_e_St_init : mm_ok2 mm_m_St_init := ⟨rfl, by decide +kernel, by decide +kernel, by decide +kernel, by decide +kernel⟩
set_option maxRecDepth 100000 in
theorem mm_e_St_makeClass : mm_ok2 mm_m_St_makeClass := ⟨rfl, by decide +kernel, by decide +kernel, by decide +kernel, by decide +kernel⟩
set_option maxRecDepth 100000 in
theorem mm_e_St_makeField : mm_ok2 mm_m_St_makeField := ⟨rfl, by decide +kernel, by decide +kernel, by decide +kernel, by decide +kernel⟩
set_option maxRecDepth 100000 in
theorem mm_e_St_makeMethod : mm_ok2 mm_m_St_makeMethod := ⟨rfl, by decide +kernel, by decide +kernel, by decide +kernel, by decide +kernel⟩
set_option maxRecDepth 100000 in
theorem mm_e_St_isClass : mm_ok2 mm_m_St_isClass := ⟨rfl, by decide +kernel, by decide +kernel, by decide +kernel, by decide +kernel⟩
set_option maxRecDepth 100000 in
theorem mm_e_St_isMethod : mm_ok2 mm_m_St_isMethod := ⟨rfl, by decide +kernel, by decide +kernel, by decide +kernel, by decide +kernel⟩
set_option maxRecDepth 100000 in
theorem mm_e_St_isPlace : mm_ok2 mm_m_St_isPlace := ⟨rfl, by decide +kernel, by decide +kernel, by decide +kernel, by decide +kernel⟩
set_option maxRecDepth 100000 in
theorem mm_e_St_isArgument : mm_ok2 mm_m_St_isArgument := ⟨rfl, by decide +kernel, by decide +kernel, by decide +kernel, by decide +kernel⟩
set_option maxRecDepth 100000 in
theorem mm_e_St_below : mm_ok2 mm_m_St_below := ⟨rfl, by decide +kernel, by decide +kernel, by decide +kernel, by decide +kernel⟩
set_option maxRecDepth 100000 in
theorem mm_e_St_common : mm_ok2 mm_m_St_common := ⟨rfl, by decide +kernel, by decide +kernel, by decide +kernel, by decide +kernel⟩
set_option maxRecDepth 100000 in
theorem mm_e_St_own : mm_ok2 mm_m_St_own := ⟨rfl, by decide +kernel, by decide +kernel, by decide +kernel, by decide +kernel⟩
set_option maxRecDepth 100000 in
theorem mm_e_St_nearest : mm_ok2 mm_m_St_nearest := ⟨rfl, by decide +kernel, by decide +kernel, by decide +kernel, by decide +kernel⟩
set_option maxRecDepth 100000 in
theorem mm_e_St_pops : mm_ok2 mm_m_St_pops := ⟨rfl, by decide +kernel, by decide +kernel, by decide +kernel, by decide +kernel⟩
set_option maxRecDepth 100000 in
theorem mm_e_St_breaksStack : mm_ok2 mm_m_St_breaksStack := ⟨rfl, by decide +kernel, by decide +kernel, by decide +kernel, by decide +kernel⟩
set_option maxRecDepth 100000 in
theorem mm_e_St_canStart : mm_ok2 mm_m_St_canStart := ⟨rfl, by decide +kernel, by decide +kernel, by decide +kernel, by decide +kernel⟩
set_option maxRecDepth 100000 in
theorem mm_e_Fr_init : mm_ok2 mm_m_Fr_init := ⟨rfl, by decide +kernel, by decide +kernel, by decide +kernel, by decide +kernel⟩
set_option maxRecDepth 100000 in
theorem mm_e_Fr_become : mm_ok2 mm_m_Fr_become := ⟨rfl, by decide +kernel, by decide +kernel, by decide +kernel, by decide +kernel⟩
set_option maxRecDepth 100000 in
theorem mm_e_Fr_push : mm_ok2 mm_m_Fr_push := ⟨rfl, by decide +kernel, by decide +kernel, by decide +kernel, by decide +kernel⟩
set_option maxRecDepth 100000 in
theorem mm_e_Fr_pop : mm_ok2 mm_m_Fr_pop := ⟨rfl, by decide +kernel, by decide +kernel, by decide +kernel, by decide +kernel⟩
set_option maxRecDepth 100000 in
theorem mm_e_Fr_under : mm_ok2 mm_m_Fr_under := ⟨rfl, by decide +kernel, by decide +kernel, by decide +kernel, by decide +kernel⟩
set_option maxRecDepth 100000 in
theorem mm_e_Fr_store : mm_ok2 mm_m_Fr_store := ⟨rfl, by decide +kernel, by decide +kernel, by decide +kernel, by decide +kernel⟩
set_option maxRecDepth 100000 in
theorem mm_e_Fr_leaveSite : mm_ok2 mm_m_Fr_leaveSite := ⟨rfl, by decide +kernel, by decide +kernel, by decide +kernel, by decide +kernel⟩
set_option maxRecDepth 100000 in
theorem mm_e_Fr_join : mm_ok2 mm_m_Fr_join := ⟨rfl, by decide +kernel, by decide +kernel, by decide +kernel, by decide +kernel⟩
set_option maxRecDepth 100000 in
theorem mm_e_Ru_init : mm_ok2 mm_m_Ru_init := ⟨rfl, by decide +kernel, by decide +kernel, by decide +kernel, by decide +kernel⟩
set_option maxRecDepth 100000 in
theorem mm_e_Ru_wayError : mm_ok2 mm_m_Ru_wayError := ⟨rfl, by decide +kernel, by decide +kernel, by decide +kernel, by decide +kernel⟩
set_option maxRecDepth 100000 in
theorem mm_e_Ru_leadsAway : mm_ok2 mm_m_Ru_leadsAway := ⟨rfl, by decide +kernel, by decide +kernel, by decide +kernel, by decide +kernel⟩
set_option maxRecDepth 100000 in
theorem mm_e_Ru_valueError : mm_ok2 mm_m_Ru_valueError := ⟨rfl, by decide +kernel, by decide +kernel, by decide +kernel, by decide +kernel⟩
set_option maxRecDepth 100000 in
theorem mm_e_Ru_first : mm_ok2 mm_m_Ru_first := ⟨rfl, by decide +kernel, by decide +kernel, by decide +kernel, by decide +kernel⟩
set_option maxRecDepth 100000 in
theorem mm_e_Ru_intError : mm_ok2 mm_m_Ru_intError := ⟨rfl, by decide +kernel, by decide +kernel, by decide +kernel, by decide +kernel⟩
set_option maxRecDepth 100000 in
theorem mm_e_Ru_isReference : mm_ok2 mm_m_Ru_isReference := ⟨rfl, by decide +kernel, by decide +kernel, by decide +kernel, by decide +kernel⟩
set_option maxRecDepth 100000 in
theorem mm_e_Ru_referenceError : mm_ok2 mm_m_Ru_referenceError := ⟨rfl, by decide +kernel, by decide +kernel, by decide +kernel, by decide +kernel⟩
set_option maxRecDepth 100000 in
theorem mm_e_Ru_holderError : mm_ok2 mm_m_Ru_holderError := ⟨rfl, by decide +kernel, by decide +kernel, by decide +kernel, by decide +kernel⟩
set_option maxRecDepth 100000 in
theorem mm_e_Ru_comingError : mm_ok2 mm_m_Ru_comingError := ⟨rfl, by decide +kernel, by decide +kernel, by decide +kernel, by decide +kernel⟩
set_option maxRecDepth 100000 in
theorem mm_e_Ru_callError : mm_ok2 mm_m_Ru_callError := ⟨rfl, by decide +kernel, by decide +kernel, by decide +kernel, by decide +kernel⟩
set_option maxRecDepth 100000 in
theorem mm_e_Ru_builtError : mm_ok2 mm_m_Ru_builtError := ⟨rfl, by decide +kernel, by decide +kernel, by decide +kernel, by decide +kernel⟩
set_option maxRecDepth 100000 in
theorem mm_e_Ru_isFitBuiltIn : mm_ok2 mm_m_Ru_isFitBuiltIn := ⟨rfl, by decide +kernel, by decide +kernel, by decide +kernel, by decide +kernel⟩
set_option maxRecDepth 100000 in
theorem mm_e_Ru_fits : mm_ok2 mm_m_Ru_fits := ⟨rfl, by decide +kernel, by decide +kernel, by decide +kernel, by decide +kernel⟩
set_option maxRecDepth 100000 in
theorem mm_e_Ru_fitsWithMarks : mm_ok2 mm_m_Ru_fitsWithMarks := ⟨rfl, by decide +kernel, by decide +kernel, by decide +kernel, by decide +kernel⟩
set_option maxRecDepth 100000 in
theorem mm_e_Ru_mayReplace : mm_ok2 mm_m_Ru_mayReplace := ⟨rfl, by decide +kernel, by decide +kernel, by decide +kernel, by decide +kernel⟩
set_option maxRecDepth 100000 in
theorem mm_e_Lo_init : mm_ok2 mm_m_Lo_init := ⟨rfl, by decide +kernel, by decide +kernel, by decide +kernel, by decide +kernel⟩
set_option maxRecDepth 100000 in
theorem mm_e_Lo_frameAt : mm_ok2 mm_m_Lo_frameAt := ⟨rfl, by decide +kernel, by decide +kernel, by decide +kernel, by decide +kernel⟩
set_option maxRecDepth 100000 in
theorem mm_e_Lo_through : mm_ok2 mm_m_Lo_through := ⟨rfl, by decide +kernel, by decide +kernel, by decide +kernel, by decide +kernel⟩
set_option maxRecDepth 100000 in
theorem mm_e_Lo_departs : mm_ok2 mm_m_Lo_departs := ⟨rfl, by decide +kernel, by decide +kernel, by decide +kernel, by decide +kernel⟩
set_option maxRecDepth 100000 in
theorem mm_e_Lo_begin : mm_ok2 mm_m_Lo_begin := ⟨rfl, by decide +kernel, by decide +kernel, by decide +kernel, by decide +kernel⟩
set_option maxRecDepth 100000 in
theorem mm_e_Lo_settle : mm_ok2 mm_m_Lo_settle := ⟨rfl, by decide +kernel, by decide +kernel, by decide +kernel, by decide +kernel⟩
set_option maxRecDepth 100000 in
theorem mm_e_Lo_leave : mm_ok2 mm_m_Lo_leave := ⟨rfl, by decide +kernel, by decide +kernel, by decide +kernel, by decide +kernel⟩
set_option maxRecDepth 100000 in
theorem mm_e_Lo_beginCatch : mm_ok2 mm_m_Lo_beginCatch := ⟨rfl, by decide +kernel, by decide +kernel, by decide +kernel, by decide +kernel⟩
set_option maxRecDepth 100000 in
theorem mm_e_Lo_arrive : mm_ok2 mm_m_Lo_arrive := ⟨rfl, by decide +kernel, by decide +kernel, by decide +kernel, by decide +kernel⟩
set_option maxRecDepth 100000 in
theorem mm_e_Lo_applyToValues : mm_ok2 mm_m_Lo_applyToValues := ⟨rfl, by decide +kernel, by decide +kernel, by decide +kernel, by decide +kernel⟩
set_option maxRecDepth 100000 in
theorem mm_e_Lo_applyToStock : mm_ok2 mm_m_Lo_applyToStock := ⟨rfl, by decide +kernel, by decide +kernel, by decide +kernel, by decide +kernel⟩
set_option maxRecDepth 100000 in
theorem mm_e_Lo_get : mm_ok2 mm_m_Lo_get := ⟨rfl, by decide +kernel, by decide +kernel, by decide +kernel, by decide +kernel⟩
set_option maxRecDepth 100000 in
theorem mm_e_Lo_put : mm_ok2 mm_m_Lo_put := ⟨rfl, by decide +kernel, by decide +kernel, by decide +kernel, by decide +kernel⟩
set_option maxRecDepth 100000 in
theorem mm_e_Lo_call : mm_ok2 mm_m_Lo_call := ⟨rfl, by decide +kernel, by decide +kernel, by decide +kernel, by decide +kernel⟩
set_option maxRecDepth 100000 in
theorem mm_e_Lo_isNull : mm_ok2 mm_m_Lo_isNull := ⟨rfl, by decide +kernel, by decide +kernel, by decide +kernel, by decide +kernel⟩
set_option maxRecDepth 100000 in
theorem mm_e_Ac_init : mm_ok2 mm_m_Ac_init := ⟨rfl, by decide +kernel, by decide +kernel, by decide +kernel, by decide +kernel⟩
set_option maxRecDepth 100000 in
theorem mm_e_Ac_begin : mm_ok2 mm_m_Ac_begin := ⟨rfl, by decide +kernel, by decide +kernel, by decide +kernel, by decide +kernel⟩
set_option maxRecDepth 100000 in
theorem mm_e_Ac_push : mm_ok2 mm_m_Ac_push := ⟨rfl, by decide +kernel, by decide +kernel, by decide +kernel, by decide +kernel⟩
set_option maxRecDepth 100000 in
theorem mm_e_Ac_pop : mm_ok2 mm_m_Ac_pop := ⟨rfl, by decide +kernel, by decide +kernel, by decide +kernel, by decide +kernel⟩
set_option maxRecDepth 100000 in
theorem mm_e_Ma_init : mm_ok2 mm_m_Ma_init := ⟨rfl, by decide +kernel, by decide +kernel, by decide +kernel, by decide +kernel⟩
set_option maxRecDepth 100000 in
theorem mm_e_Ma_addInput : mm_ok2 mm_m_Ma_addInput := ⟨rfl, by decide +kernel, by decide +kernel, by decide +kernel, by decide +kernel⟩
set_option maxRecDepth 100000 in
theorem mm_e_Ma_start : mm_ok2 mm_m_Ma_start := ⟨rfl, by decide +kernel, by decide +kernel, by decide +kernel, by decide +kernel⟩
set_option maxRecDepth 100000 in
theorem mm_e_Ma_enter : mm_ok2 mm_m_Ma_enter := ⟨rfl, by decide +kernel, by decide +kernel, by decide +kernel, by decide +kernel⟩
set_option maxRecDepth 100000 in
theorem mm_e_Ma_perform : mm_ok2 mm_m_Ma_perform := ⟨rfl, by decide +kernel, by decide +kernel, by decide +kernel, by decide +kernel⟩
set_option maxRecDepth 100000 in
theorem mm_e_Ma_performOnObjects : mm_ok2 mm_m_Ma_performOnObjects := ⟨rfl, by decide +kernel, by decide +kernel, by decide +kernel, by decide +kernel⟩
set_option maxRecDepth 100000 in
theorem mm_e_Ma_pushAndGoOn : mm_ok2 mm_m_Ma_pushAndGoOn := ⟨rfl, by decide +kernel, by decide +kernel, by decide +kernel, by decide +kernel⟩
set_option maxRecDepth 100000 in
theorem mm_e_Ma_isObject : mm_ok2 mm_m_Ma_isObject := ⟨rfl, by decide +kernel, by decide +kernel, by decide +kernel, by decide +kernel⟩
set_option maxRecDepth 100000 in
theorem mm_e_Ma_makeObject : mm_ok2 mm_m_Ma_makeObject := ⟨rfl, by decide +kernel, by decide +kernel, by decide +kernel, by decide +kernel⟩
set_option maxRecDepth 100000 in
theorem mm_e_Ma_get : mm_ok2 mm_m_Ma_get := ⟨rfl, by decide +kernel, by decide +kernel, by decide +kernel, by decide +kernel⟩
set_option maxRecDepth 100000 in
theorem mm_e_Ma_put : mm_ok2 mm_m_Ma_put := ⟨rfl, by decide +kernel, by decide +kernel, by decide +kernel, by decide +kernel⟩
set_option maxRecDepth 100000 in
theorem mm_e_Ma_cast : mm_ok2 mm_m_Ma_cast := ⟨rfl, by decide +kernel, by decide +kernel, by decide +kernel, by decide +kernel⟩
set_option maxRecDepth 100000 in
theorem mm_e_Ma_call : mm_ok2 mm_m_Ma_call := ⟨rfl, by decide +kernel, by decide +kernel, by decide +kernel, by decide +kernel⟩
set_option maxRecDepth 100000 in
theorem mm_e_Ma_callBuiltIn : mm_ok2 mm_m_Ma_callBuiltIn := ⟨rfl, by decide +kernel, by decide +kernel, by decide +kernel, by decide +kernel⟩
set_option maxRecDepth 100000 in
theorem mm_e_Ma_give : mm_ok2 mm_m_Ma_give := ⟨rfl, by decide +kernel, by decide +kernel, by decide +kernel, by decide +kernel⟩
set_option maxRecDepth 100000 in
theorem mm_e_Ma_classOf : mm_ok2 mm_m_Ma_classOf := ⟨rfl, by decide +kernel, by decide +kernel, by decide +kernel, by decide +kernel⟩
set_option maxRecDepth 100000 in
theorem mm_e_Ma_raise : mm_ok2 mm_m_Ma_raise := ⟨rfl, by decide +kernel, by decide +kernel, by decide +kernel, by decide +kernel⟩
set_option maxRecDepth 100000 in
theorem mm_e_Ga_init : mm_ok2 mm_m_Ga_init := ⟨rfl, by decide +kernel, by decide +kernel, by decide +kernel, by decide +kernel⟩
set_option maxRecDepth 100000 in
theorem mm_e_Ga_cls : mm_ok2 mm_m_Ga_cls := ⟨rfl, by decide +kernel, by decide +kernel, by decide +kernel, by decide +kernel⟩
set_option maxRecDepth 100000 in
theorem mm_e_Ga_field : mm_ok2 mm_m_Ga_field := ⟨rfl, by decide +kernel, by decide +kernel, by decide +kernel, by decide +kernel⟩
set_option maxRecDepth 100000 in
theorem mm_e_Ga_method : mm_ok2 mm_m_Ga_method := ⟨rfl, by decide +kernel, by decide +kernel, by decide +kernel, by decide +kernel⟩
set_option maxRecDepth 100000 in
theorem mm_e_Ga_param : mm_ok2 mm_m_Ga_param := ⟨rfl, by decide +kernel, by decide +kernel, by decide +kernel, by decide +kernel⟩
set_option maxRecDepth 100000 in
theorem mm_e_Ga_result : mm_ok2 mm_m_Ga_result := ⟨rfl, by decide +kernel, by decide +kernel, by decide +kernel, by decide +kernel⟩
set_option maxRecDepth 100000 in
theorem mm_e_Ga_builtIn : mm_ok2 mm_m_Ga_builtIn := ⟨rfl, by decide +kernel, by decide +kernel, by decide +kernel, by decide +kernel⟩
set_option maxRecDepth 100000 in
theorem mm_e_Ga_add : mm_ok2 mm_m_Ga_add := ⟨rfl, by decide +kernel, by decide +kernel, by decide +kernel, by decide +kernel⟩
set_option maxRecDepth 100000 in
theorem mm_e_Ga_guard : mm_ok2 mm_m_Ga_guard := ⟨rfl, by decide +kernel, by decide +kernel, by decide +kernel, by decide +kernel⟩
set_option maxRecDepth 100000 in
theorem mm_e_Ga_wipe : mm_ok2 mm_m_Ga_wipe := ⟨rfl, by decide +kernel, by decide +kernel, by decide +kernel, by decide +kernel⟩
set_option maxRecDepth 100000 in
theorem mm_e_Ga_check : mm_ok2 mm_m_Ga_check := ⟨rfl, by decide +kernel, by decide +kernel, by decide +kernel, by decide +kernel⟩
set_option maxRecDepth 100000 in
theorem mm_e_Ga_load : mm_ok2 mm_m_Ga_load := ⟨rfl, by decide +kernel, by decide +kernel, by decide +kernel, by decide +kernel⟩
set_option maxRecDepth 100000 in
theorem mm_e_Ga_isLoaded : mm_ok2 mm_m_Ga_isLoaded := ⟨rfl, by decide +kernel, by decide +kernel, by decide +kernel, by decide +kernel⟩
set_option maxRecDepth 100000 in
theorem mm_e_Ga_place : mm_ok2 mm_m_Ga_place := ⟨rfl, by decide +kernel, by decide +kernel, by decide +kernel, by decide +kernel⟩
set_option maxRecDepth 100000 in
theorem mm_e_Ga_frame : mm_ok2 mm_m_Ga_frame := ⟨rfl, by decide +kernel, by decide +kernel, by decide +kernel, by decide +kernel⟩
set_option maxRecDepth 100000 in
theorem mm_e_Ga_input : mm_ok2 mm_m_Ga_input := ⟨rfl, by decide +kernel, by decide +kernel, by decide +kernel, by decide +kernel⟩
set_option maxRecDepth 100000 in
theorem mm_e_Ga_run : mm_ok2 mm_m_Ga_run := ⟨rfl, by decide +kernel, by decide +kernel, by decide +kernel, by decide +kernel⟩
set_option maxRecDepth 100000 in
theorem mm_e_Ga_value : mm_ok2 mm_m_Ga_value := ⟨rfl, by decide +kernel, by decide +kernel, by decide +kernel, by decide +kernel⟩
set_option maxRecDepth 100000 in
theorem mm_e_Ga_output : mm_ok2 mm_m_Ga_output := ⟨rfl, by decide +kernel, by decide +kernel, by decide +kernel, by decide +kernel⟩
set_option maxRecDepth 100000 in
theorem mm_e_Ga_told : mm_ok2 mm_m_Ga_told := ⟨rfl, by decide +kernel, by decide +kernel, by decide +kernel, by decide +kernel⟩
set_option maxRecDepth 100000 in
theorem mm_e_Ga_placeOf : mm_ok2 mm_m_Ga_placeOf := ⟨rfl, by decide +kernel, by decide +kernel, by decide +kernel, by decide +kernel⟩
set_option maxRecDepth 100000 in
theorem mm_e_Ga_within : mm_ok2 mm_m_Ga_within := ⟨rfl, by decide +kernel, by decide +kernel, by decide +kernel, by decide +kernel⟩
set_option maxRecDepth 100000 in
theorem mm_e_Mo_init : mm_ok2 mm_m_Mo_init := ⟨rfl, by decide +kernel, by decide +kernel, by decide +kernel, by decide +kernel⟩
set_option maxRecDepth 100000 in
theorem mm_e_Mo_within : mm_ok2 mm_m_Mo_within := ⟨rfl, by decide +kernel, by decide +kernel, by decide +kernel, by decide +kernel⟩
set_option maxRecDepth 100000 in
theorem mm_e_Mo_isClass : mm_ok2 mm_m_Mo_isClass := ⟨rfl, by decide +kernel, by decide +kernel, by decide +kernel, by decide +kernel⟩
set_option maxRecDepth 100000 in
theorem mm_e_Mo_isMethod : mm_ok2 mm_m_Mo_isMethod := ⟨rfl, by decide +kernel, by decide +kernel, by decide +kernel, by decide +kernel⟩
set_option maxRecDepth 100000 in
theorem mm_e_Mo_frozen : mm_ok2 mm_m_Mo_frozen := ⟨rfl, by decide +kernel, by decide +kernel, by decide +kernel, by decide +kernel⟩
set_option maxRecDepth 100000 in
theorem mm_e_Mo_isBelow : mm_ok2 mm_m_Mo_isBelow := ⟨rfl, by decide +kernel, by decide +kernel, by decide +kernel, by decide +kernel⟩
set_option maxRecDepth 100000 in
theorem mm_e_Mo_says : mm_ok2 mm_m_Mo_says := ⟨rfl, by decide +kernel, by decide +kernel, by decide +kernel, by decide +kernel⟩
set_option maxRecDepth 100000 in
theorem mm_e_Mo_cls : mm_ok2 mm_m_Mo_cls := ⟨rfl, by decide +kernel, by decide +kernel, by decide +kernel, by decide +kernel⟩
set_option maxRecDepth 100000 in
theorem mm_e_Mo_field : mm_ok2 mm_m_Mo_field := ⟨rfl, by decide +kernel, by decide +kernel, by decide +kernel, by decide +kernel⟩
set_option maxRecDepth 100000 in
theorem mm_e_Mo_own : mm_ok2 mm_m_Mo_own := ⟨rfl, by decide +kernel, by decide +kernel, by decide +kernel, by decide +kernel⟩
set_option maxRecDepth 100000 in
theorem mm_e_Mo_find : mm_ok2 mm_m_Mo_find := ⟨rfl, by decide +kernel, by decide +kernel, by decide +kernel, by decide +kernel⟩
set_option maxRecDepth 100000 in
theorem mm_e_Mo_method : mm_ok2 mm_m_Mo_method := ⟨rfl, by decide +kernel, by decide +kernel, by decide +kernel, by decide +kernel⟩
set_option maxRecDepth 100000 in
theorem mm_e_Mo_param : mm_ok2 mm_m_Mo_param := ⟨rfl, by decide +kernel, by decide +kernel, by decide +kernel, by decide +kernel⟩
set_option maxRecDepth 100000 in
theorem mm_e_Mo_say : mm_ok2 mm_m_Mo_say := ⟨rfl, by decide +kernel, by decide +kernel, by decide +kernel, by decide +kernel⟩
set_option maxRecDepth 100000 in
theorem mm_e_Mo_result : mm_ok2 mm_m_Mo_result := ⟨rfl, by decide +kernel, by decide +kernel, by decide +kernel, by decide +kernel⟩
set_option maxRecDepth 100000 in
theorem mm_e_Mo_builtIn : mm_ok2 mm_m_Mo_builtIn := ⟨rfl, by decide +kernel, by decide +kernel, by decide +kernel, by decide +kernel⟩
set_option maxRecDepth 100000 in
theorem mm_e_Mo_add : mm_ok2 mm_m_Mo_add := ⟨rfl, by decide +kernel, by decide +kernel, by decide +kernel, by decide +kernel⟩
set_option maxRecDepth 100000 in
theorem mm_e_Mo_guard : mm_ok2 mm_m_Mo_guard := ⟨rfl, by decide +kernel, by decide +kernel, by decide +kernel, by decide +kernel⟩
set_option maxRecDepth 100000 in
theorem mm_e_Mo_wipe : mm_ok2 mm_m_Mo_wipe := ⟨rfl, by decide +kernel, by decide +kernel, by decide +kernel, by decide +kernel⟩
set_option maxRecDepth 100000 in
theorem mm_e_Mo_guardOf : mm_ok2 mm_m_Mo_guardOf := ⟨rfl, by decide +kernel, by decide +kernel, by decide +kernel, by decide +kernel⟩
set_option maxRecDepth 100000 in
theorem mm_e_Mo_pops : mm_ok2 mm_m_Mo_pops := ⟨rfl, by decide +kernel, by decide +kernel, by decide +kernel, by decide +kernel⟩
set_option maxRecDepth 100000 in
theorem mm_e_Mo_pushes : mm_ok2 mm_m_Mo_pushes := ⟨rfl, by decide +kernel, by decide +kernel, by decide +kernel, by decide +kernel⟩
set_option maxRecDepth 100000 in
theorem mm_e_Mo_wayOf : mm_ok2 mm_m_Mo_wayOf := ⟨rfl, by decide +kernel, by decide +kernel, by decide +kernel, by decide +kernel⟩
set_option maxRecDepth 100000 in
theorem mm_e_Mo_isShort : mm_ok2 mm_m_Mo_isShort := ⟨rfl, by decide +kernel, by decide +kernel, by decide +kernel, by decide +kernel⟩
set_option maxRecDepth 100000 in
theorem mm_e_Mo_set : mm_ok2 mm_m_Mo_set := ⟨rfl, by decide +kernel, by decide +kernel, by decide +kernel, by decide +kernel⟩
set_option maxRecDepth 100000 in
theorem mm_e_Mo_push : mm_ok2 mm_m_Mo_push := ⟨rfl, by decide +kernel, by decide +kernel, by decide +kernel, by decide +kernel⟩
set_option maxRecDepth 100000 in
theorem mm_e_Mo_pushSaid : mm_ok2 mm_m_Mo_pushSaid := ⟨rfl, by decide +kernel, by decide +kernel, by decide +kernel, by decide +kernel⟩
set_option maxRecDepth 100000 in
theorem mm_e_Mo_start : mm_ok2 mm_m_Mo_start := ⟨rfl, by decide +kernel, by decide +kernel, by decide +kernel, by decide +kernel⟩
set_option maxRecDepth 100000 in
theorem mm_e_Mo_take : mm_ok2 mm_m_Mo_take := ⟨rfl, by decide +kernel, by decide +kernel, by decide +kernel, by decide +kernel⟩
set_option maxRecDepth 100000 in
theorem mm_e_Mo_keep : mm_ok2 mm_m_Mo_keep := ⟨rfl, by decide +kernel, by decide +kernel, by decide +kernel, by decide +kernel⟩
set_option maxRecDepth 100000 in
theorem mm_e_Mo_come : mm_ok2 mm_m_Mo_come := ⟨rfl, by decide +kernel, by decide +kernel, by decide +kernel, by decide +kernel⟩
set_option maxRecDepth 100000 in
theorem mm_e_Mo_join : mm_ok2 mm_m_Mo_join := ⟨rfl, by decide +kernel, by decide +kernel, by decide +kernel, by decide +kernel⟩
set_option maxRecDepth 100000 in
theorem mm_e_Mo_settle : mm_ok2 mm_m_Mo_settle := ⟨rfl, by decide +kernel, by decide +kernel, by decide +kernel, by decide +kernel⟩
set_option maxRecDepth 100000 in
theorem mm_e_Mo_look : mm_ok2 mm_m_Mo_look := ⟨rfl, by decide +kernel, by decide +kernel, by decide +kernel, by decide +kernel⟩
set_option maxRecDepth 100000 in
theorem mm_e_Mo_flow : mm_ok2 mm_m_Mo_flow := ⟨rfl, by decide +kernel, by decide +kernel, by decide +kernel, by decide +kernel⟩
set_option maxRecDepth 100000 in
theorem mm_e_Mo_effect : mm_ok2 mm_m_Mo_effect := ⟨rfl, by decide +kernel, by decide +kernel, by decide +kernel, by decide +kernel⟩
set_option maxRecDepth 100000 in
theorem mm_e_Mo_wrongFor : mm_ok2 mm_m_Mo_wrongFor := ⟨rfl, by decide +kernel, by decide +kernel, by decide +kernel, by decide +kernel⟩
set_option maxRecDepth 100000 in
theorem mm_e_Mo_isRef : mm_ok2 mm_m_Mo_isRef := ⟨rfl, by decide +kernel, by decide +kernel, by decide +kernel, by decide +kernel⟩
set_option maxRecDepth 100000 in
theorem mm_e_Mo_wrongObject : mm_ok2 mm_m_Mo_wrongObject := ⟨rfl, by decide +kernel, by decide +kernel, by decide +kernel, by decide +kernel⟩
set_option maxRecDepth 100000 in
theorem mm_e_Mo_least : mm_ok2 mm_m_Mo_least := ⟨rfl, by decide +kernel, by decide +kernel, by decide +kernel, by decide +kernel⟩
set_option maxRecDepth 100000 in
theorem mm_e_Mo_errorAt : mm_ok2 mm_m_Mo_errorAt := ⟨rfl, by decide +kernel, by decide +kernel, by decide +kernel, by decide +kernel⟩
set_option maxRecDepth 100000 in
theorem mm_e_Mo_wrongCall : mm_ok2 mm_m_Mo_wrongCall := ⟨rfl, by decide +kernel, by decide +kernel, by decide +kernel, by decide +kernel⟩
set_option maxRecDepth 100000 in
theorem mm_e_Mo_lacks : mm_ok2 mm_m_Mo_lacks := ⟨rfl, by decide +kernel, by decide +kernel, by decide +kernel, by decide +kernel⟩
set_option maxRecDepth 100000 in
theorem mm_e_Mo_isOutside : mm_ok2 mm_m_Mo_isOutside := ⟨rfl, by decide +kernel, by decide +kernel, by decide +kernel, by decide +kernel⟩
set_option maxRecDepth 100000 in
theorem mm_e_Mo_inspect : mm_ok2 mm_m_Mo_inspect := ⟨rfl, by decide +kernel, by decide +kernel, by decide +kernel, by decide +kernel⟩
set_option maxRecDepth 100000 in
theorem mm_e_Mo_check : mm_ok2 mm_m_Mo_check := ⟨rfl, by decide +kernel, by decide +kernel, by decide +kernel, by decide +kernel⟩
set_option maxRecDepth 100000 in
theorem mm_e_Mo_parts : mm_ok2 mm_m_Mo_parts := ⟨rfl, by decide +kernel, by decide +kernel, by decide +kernel, by decide +kernel⟩
set_option maxRecDepth 100000 in
theorem mm_e_Mo_varies : mm_ok2 mm_m_Mo_varies := ⟨rfl, by decide +kernel, by decide +kernel, by decide +kernel, by decide +kernel⟩
set_option maxRecDepth 100000 in
theorem mm_e_Mo_load : mm_ok2 mm_m_Mo_load := ⟨rfl, by decide +kernel, by decide +kernel, by decide +kernel, by decide +kernel⟩
set_option maxRecDepth 100000 in
theorem mm_e_Mo_isLoaded : mm_ok2 mm_m_Mo_isLoaded := ⟨rfl, by decide +kernel, by decide +kernel, by decide +kernel, by decide +kernel⟩
set_option maxRecDepth 100000 in
theorem mm_e_Mo_place : mm_ok2 mm_m_Mo_place := ⟨rfl, by decide +kernel, by decide +kernel, by decide +kernel, by decide +kernel⟩
set_option maxRecDepth 100000 in
theorem mm_e_Mo_frame : mm_ok2 mm_m_Mo_frame := ⟨rfl, by decide +kernel, by decide +kernel, by decide +kernel, by decide +kernel⟩
set_option maxRecDepth 100000 in
theorem mm_e_Mo_input : mm_ok2 mm_m_Mo_input := ⟨rfl, by decide +kernel, by decide +kernel, by decide +kernel, by decide +kernel⟩
set_option maxRecDepth 100000 in
theorem mm_e_Mo_run : mm_ok2 mm_m_Mo_run := ⟨rfl, by decide +kernel, by decide +kernel, by decide +kernel, by decide +kernel⟩
set_option maxRecDepth 100000 in
theorem mm_e_Mo_enter : mm_ok2 mm_m_Mo_enter := ⟨rfl, by decide +kernel, by decide +kernel, by decide +kernel, by decide +kernel⟩
set_option maxRecDepth 100000 in
theorem mm_e_Mo_pull : mm_ok2 mm_m_Mo_pull := ⟨rfl, by decide +kernel, by decide +kernel, by decide +kernel, by decide +kernel⟩
set_option maxRecDepth 100000 in
theorem mm_e_Mo_lay : mm_ok2 mm_m_Mo_lay := ⟨rfl, by decide +kernel, by decide +kernel, by decide +kernel, by decide +kernel⟩
set_option maxRecDepth 100000 in
theorem mm_e_Mo_step : mm_ok2 mm_m_Mo_step := ⟨rfl, by decide +kernel, by decide +kernel, by decide +kernel, by decide +kernel⟩
set_option maxRecDepth 100000 in
theorem mm_e_Mo_make : mm_ok2 mm_m_Mo_make := ⟨rfl, by decide +kernel, by decide +kernel, by decide +kernel, by decide +kernel⟩
set_option maxRecDepth 100000 in
theorem mm_e_Mo_call : mm_ok2 mm_m_Mo_call := ⟨rfl, by decide +kernel, by decide +kernel, by decide +kernel, by decide +kernel⟩
set_option maxRecDepth 100000 in
theorem mm_e_Mo_outside : mm_ok2 mm_m_Mo_outside := ⟨rfl, by decide +kernel, by decide +kernel, by decide +kernel, by decide +kernel⟩
set_option maxRecDepth 100000 in
theorem mm_e_Mo_give : mm_ok2 mm_m_Mo_give := ⟨rfl, by decide +kernel, by decide +kernel, by decide +kernel, by decide +kernel⟩
set_option maxRecDepth 100000 in
theorem mm_e_Mo_raise : mm_ok2 mm_m_Mo_raise := ⟨rfl, by decide +kernel, by decide +kernel, by decide +kernel, by decide +kernel⟩
set_option maxRecDepth 100000 in
theorem mm_e_Mo_value : mm_ok2 mm_m_Mo_value := ⟨rfl, by decide +kernel, by decide +kernel, by decide +kernel, by decide +kernel⟩
set_option maxRecDepth 100000 in
theorem mm_e_Mo_output : mm_ok2 mm_m_Mo_output := ⟨rfl, by decide +kernel, by decide +kernel, by decide +kernel, by decide +kernel⟩
set_option maxRecDepth 100000 in
theorem mm_e_Mo_told : mm_ok2 mm_m_Mo_told := ⟨rfl, by decide +kernel, by decide +kernel, by decide +kernel, by decide +kernel⟩
theorem mm_ms_1_0 : ∀ M ∈ [mm_m_Op_goesOn, mm_m_Op_jumps, mm_m_Op_mayThrow, mm_m_Va_of, mm_m_Va_ofPlace, mm_m_Va_kind, mm_m_Va_classOf, mm_m_Va_may, mm_m_Va_marks, mm_m_Va_origin, mm_m_Va_withOrigin, mm_m_Va_withKind, mm_m_Va_notNull, mm_m_Va_join, mm_m_Va_part, mm_m_Pl_init], ∀ e ∈ M.2.2.2.2.2.2, mm_ok1 M e = true := List.forall_mem_cons.mpr ⟨mm_d_Op_goesOn, List.forall_mem_cons.mpr ⟨mm_d_Op_jumps, List.forall_mem_cons.mpr ⟨mm_d_Op_mayThrow, List.forall_mem_cons.mpr ⟨mm_d_Va_of, List.forall_mem_cons.mpr ⟨mm_d_Va_ofPlace, List.forall_mem_cons.mpr ⟨mm_d_Va_kind, List.forall_mem_cons.mpr ⟨mm_d_Va_classOf, List.forall_mem_cons.mpr ⟨mm_d_Va_may, List.forall_mem_cons.mpr ⟨mm_d_Va_marks, List.forall_mem_cons.mpr ⟨mm_d_Va_origin, List.forall_mem_cons.mpr ⟨mm_d_Va_withOrigin, List.forall_mem_cons.mpr ⟨mm_d_Va_withKind, List.forall_mem_cons.mpr ⟨mm_d_Va_notNull, List.forall_mem_cons.mpr ⟨mm_d_Va_join, List.forall_mem_cons.mpr ⟨mm_d_Va_part, List.forall_mem_cons.mpr ⟨mm_d_Pl_init, fun _ h => absurd h List.not_mem_nil⟩⟩⟩⟩⟩⟩⟩⟩⟩⟩⟩⟩⟩⟩⟩⟩
theorem mm_ms_1_1 : ∀ M ∈ [mm_m_Pl_become, mm_m_Me_init, mm_m_Me_addParam, mm_m_Me_addInstruction, mm_m_Me_addGuard, mm_m_Me_clear, mm_m_Me_isBuiltIn, mm_m_Me_gives, mm_m_Me_takes, mm_m_Me_firstParam, mm_m_Me_caughtAt, mm_m_St_init, mm_m_St_makeClass, mm_m_St_makeField, mm_m_St_makeMethod, mm_m_St_isClass], ∀ e ∈ M.2.2.2.2.2.2, mm_ok1 M e = true := List.forall_mem_cons.mpr ⟨mm_d_Pl_become, List.forall_mem_cons.mpr ⟨mm_d_Me_init, List.forall_mem_cons.mpr ⟨mm_d_Me_addParam, List.forall_mem_cons.mpr ⟨mm_d_Me_addInstruction, List.forall_mem_cons.mpr ⟨mm_d_Me_addGuard, List.forall_mem_cons.mpr ⟨mm_d_Me_clear, List.forall_mem_cons.mpr ⟨mm_d_Me_isBuiltIn, List.forall_mem_cons.mpr ⟨mm_d_Me_gives, List.forall_mem_cons.mpr ⟨mm_d_Me_takes, List.forall_mem_cons.mpr ⟨mm_d_Me_firstParam, List.forall_mem_cons.mpr ⟨mm_d_Me_caughtAt, List.forall_mem_cons.mpr ⟨mm_d_St_init, List.forall_mem_cons.mpr ⟨mm_d_St_makeClass, List.forall_mem_cons.mpr ⟨mm_d_St_makeField, List.forall_mem_cons.mpr ⟨mm_d_St_makeMethod, List.forall_mem_cons.mpr ⟨mm_d_St_isClass, fun _ h => absurd h List.not_mem_nil⟩⟩⟩⟩⟩⟩⟩⟩⟩⟩⟩⟩⟩⟩⟩⟩
theorem mm_ms_1_2 : ∀ M ∈ [mm_m_St_isMethod, mm_m_St_isPlace, mm_m_St_isArgument, mm_m_St_below, mm_m_St_common, mm_m_St_own, mm_m_St_nearest, mm_m_St_pops, mm_m_St_breaksStack, mm_m_St_canStart, mm_m_Fr_init, mm_m_Fr_become, mm_m_Fr_push, mm_m_Fr_pop, mm_m_Fr_under, mm_m_Fr_store], ∀ e ∈ M.2.2.2.2.2.2, mm_ok1 M e = true := List.forall_mem_cons.mpr ⟨mm_d_St_isMethod, List.forall_mem_cons.mpr ⟨mm_d_St_isPlace, List.forall_mem_cons.mpr ⟨mm_d_St_isArgument, List.forall_mem_cons.mpr ⟨mm_d_St_below, List.forall_mem_cons.mpr ⟨mm_d_St_common, List.forall_mem_cons.mpr ⟨mm_d_St_own, List.forall_mem_cons.mpr ⟨mm_d_St_nearest, List.forall_mem_cons.mpr ⟨mm_d_St_pops, List.forall_mem_cons.mpr ⟨mm_d_St_breaksStack, List.forall_mem_cons.mpr ⟨mm_d_St_canStart, List.forall_mem_cons.mpr ⟨mm_d_Fr_init, List.forall_mem_cons.mpr ⟨mm_d_Fr_become, List.forall_mem_cons.mpr ⟨mm_d_Fr_push, List.forall_mem_cons.mpr ⟨mm_d_Fr_pop, List.forall_mem_cons.mpr ⟨mm_d_Fr_under, List.forall_mem_cons.mpr ⟨mm_d_Fr_store, fun _ h => absurd h List.not_mem_nil⟩⟩⟩⟩⟩⟩⟩⟩⟩⟩⟩⟩⟩⟩⟩⟩
theorem mm_ms_1_3 : ∀ M ∈ [mm_m_Fr_leaveSite, mm_m_Fr_join, mm_m_Ru_init, mm_m_Ru_wayError, mm_m_Ru_leadsAway, mm_m_Ru_valueError, mm_m_Ru_first, mm_m_Ru_intError, mm_m_Ru_isReference, mm_m_Ru_referenceError, mm_m_Ru_holderError, mm_m_Ru_comingError, mm_m_Ru_callError, mm_m_Ru_builtError, mm_m_Ru_isFitBuiltIn, mm_m_Ru_fits], ∀ e ∈ M.2.2.2.2.2.2, mm_ok1 M e = true := List.forall_mem_cons.mpr ⟨mm_d_Fr_leaveSite, List.forall_mem_cons.mpr ⟨mm_d_Fr_join, List.forall_mem_cons.mpr ⟨mm_d_Ru_init, List.forall_mem_cons.mpr ⟨mm_d_Ru_wayError, List.forall_mem_cons.mpr ⟨mm_d_Ru_leadsAway, List.forall_mem_cons.mpr ⟨mm_d_Ru_valueError, List.forall_mem_cons.mpr ⟨mm_d_Ru_first, List.forall_mem_cons.mpr ⟨mm_d_Ru_intError, List.forall_mem_cons.mpr ⟨mm_d_Ru_isReference, List.forall_mem_cons.mpr ⟨mm_d_Ru_referenceError, List.forall_mem_cons.mpr ⟨mm_d_Ru_holderError, List.forall_mem_cons.mpr ⟨mm_d_Ru_comingError, List.forall_mem_cons.mpr ⟨mm_d_Ru_callError, List.forall_mem_cons.mpr ⟨mm_d_Ru_builtError, List.forall_mem_cons.mpr ⟨mm_d_Ru_isFitBuiltIn, List.forall_mem_cons.mpr ⟨mm_d_Ru_fits, fun _ h => absurd h List.not_mem_nil⟩⟩⟩⟩⟩⟩⟩⟩⟩⟩⟩⟩⟩⟩⟩⟩
theorem mm_ms_1_4 : ∀ M ∈ [mm_m_Ru_fitsWithMarks, mm_m_Ru_mayReplace, mm_m_Lo_init, mm_m_Lo_frameAt, mm_m_Lo_through, mm_m_Lo_departs, mm_m_Lo_begin, mm_m_Lo_settle, mm_m_Lo_leave, mm_m_Lo_beginCatch, mm_m_Lo_arrive, mm_m_Lo_applyToValues, mm_m_Lo_applyToStock, mm_m_Lo_get, mm_m_Lo_put, mm_m_Lo_call], ∀ e ∈ M.2.2.2.2.2.2, mm_ok1 M e = true := List.forall_mem_cons.mpr ⟨mm_d_Ru_fitsWithMarks, List.forall_mem_cons.mpr ⟨mm_d_Ru_mayReplace, List.forall_mem_cons.mpr ⟨mm_d_Lo_init, List.forall_mem_cons.mpr ⟨mm_d_Lo_frameAt, List.forall_mem_cons.mpr ⟨mm_d_Lo_through, List.forall_mem_cons.mpr ⟨mm_d_Lo_departs, List.forall_mem_cons.mpr ⟨mm_d_Lo_begin, List.forall_mem_cons.mpr ⟨mm_d_Lo_settle, List.forall_mem_cons.mpr ⟨mm_d_Lo_leave, List.forall_mem_cons.mpr ⟨mm_d_Lo_beginCatch, List.forall_mem_cons.mpr ⟨mm_d_Lo_arrive, List.forall_mem_cons.mpr ⟨mm_d_Lo_applyToValues, List.forall_mem_cons.mpr ⟨mm_d_Lo_applyToStock, List.forall_mem_cons.mpr ⟨mm_d_Lo_get, List.forall_mem_cons.mpr ⟨mm_d_Lo_put, List.forall_mem_cons.mpr ⟨mm_d_Lo_call, fun _ h => absurd h List.not_mem_nil⟩⟩⟩⟩⟩⟩⟩⟩⟩⟩⟩⟩⟩⟩⟩⟩
theorem mm_ms_1_5 : ∀ M ∈ [mm_m_Lo_isNull, mm_m_Ac_init, mm_m_Ac_begin, mm_m_Ac_push, mm_m_Ac_pop, mm_m_Ma_init, mm_m_Ma_addInput, mm_m_Ma_start, mm_m_Ma_enter, mm_m_Ma_perform, mm_m_Ma_performOnObjects, mm_m_Ma_pushAndGoOn, mm_m_Ma_isObject, mm_m_Ma_makeObject, mm_m_Ma_get, mm_m_Ma_put], ∀ e ∈ M.2.2.2.2.2.2, mm_ok1 M e = true := List.forall_mem_cons.mpr ⟨mm_d_Lo_isNull, List.forall_mem_cons.mpr ⟨mm_d_Ac_init, List.forall_mem_cons.mpr ⟨mm_d_Ac_begin, List.forall_mem_cons.mpr ⟨mm_d_Ac_push, List.forall_mem_cons.mpr ⟨mm_d_Ac_pop, List.forall_mem_cons.mpr ⟨mm_d_Ma_init, List.forall_mem_cons.mpr ⟨mm_d_Ma_addInput, List.forall_mem_cons.mpr ⟨mm_d_Ma_start, List.forall_mem_cons.mpr ⟨mm_d_Ma_enter, List.forall_mem_cons.mpr ⟨mm_d_Ma_perform, List.forall_mem_cons.mpr ⟨mm_d_Ma_performOnObjects, List.forall_mem_cons.mpr ⟨mm_d_Ma_pushAndGoOn, List.forall_mem_cons.mpr ⟨mm_d_Ma_isObject, List.forall_mem_cons.mpr ⟨mm_d_Ma_makeObject, List.forall_mem_cons.mpr ⟨mm_d_Ma_get, List.forall_mem_cons.mpr ⟨mm_d_Ma_put, fun _ h => absurd h List.not_mem_nil⟩⟩⟩⟩⟩⟩⟩⟩⟩⟩⟩⟩⟩⟩⟩⟩
theorem mm_ms_1_6 : ∀ M ∈ [mm_m_Ma_cast, mm_m_Ma_call, mm_m_Ma_callBuiltIn, mm_m_Ma_give, mm_m_Ma_classOf, mm_m_Ma_raise, mm_m_Ga_init, mm_m_Ga_cls, mm_m_Ga_field, mm_m_Ga_method, mm_m_Ga_param, mm_m_Ga_result, mm_m_Ga_builtIn, mm_m_Ga_add, mm_m_Ga_guard, mm_m_Ga_wipe], ∀ e ∈ M.2.2.2.2.2.2, mm_ok1 M e = true := List.forall_mem_cons.mpr ⟨mm_d_Ma_cast, List.forall_mem_cons.mpr ⟨mm_d_Ma_call, List.forall_mem_cons.mpr ⟨mm_d_Ma_callBuiltIn, List.forall_mem_cons.mpr ⟨mm_d_Ma_give, List.forall_mem_cons.mpr ⟨mm_d_Ma_classOf, List.forall_mem_cons.mpr ⟨mm_d_Ma_raise, List.forall_mem_cons.mpr ⟨mm_d_Ga_init, List.forall_mem_cons.mpr ⟨mm_d_Ga_cls, List.forall_mem_cons.mpr ⟨mm_d_Ga_field, List.forall_mem_cons.mpr ⟨mm_d_Ga_method, List.forall_mem_cons.mpr ⟨mm_d_Ga_param, List.forall_mem_cons.mpr ⟨mm_d_Ga_result, List.forall_mem_cons.mpr ⟨mm_d_Ga_builtIn, List.forall_mem_cons.mpr ⟨mm_d_Ga_add, List.forall_mem_cons.mpr ⟨mm_d_Ga_guard, List.forall_mem_cons.mpr ⟨mm_d_Ga_wipe, fun _ h => absurd h List.not_mem_nil⟩⟩⟩⟩⟩⟩⟩⟩⟩⟩⟩⟩⟩⟩⟩⟩
theorem mm_ms_1_7 : ∀ M ∈ [mm_m_Ga_check, mm_m_Ga_load, mm_m_Ga_isLoaded, mm_m_Ga_place, mm_m_Ga_frame, mm_m_Ga_input, mm_m_Ga_run, mm_m_Ga_value, mm_m_Ga_output, mm_m_Ga_told, mm_m_Ga_placeOf, mm_m_Ga_within, mm_m_Mo_init, mm_m_Mo_within, mm_m_Mo_isClass, mm_m_Mo_isMethod], ∀ e ∈ M.2.2.2.2.2.2, mm_ok1 M e = true := List.forall_mem_cons.mpr ⟨mm_d_Ga_check, List.forall_mem_cons.mpr ⟨mm_d_Ga_load, List.forall_mem_cons.mpr ⟨mm_d_Ga_isLoaded, List.forall_mem_cons.mpr ⟨mm_d_Ga_place, List.forall_mem_cons.mpr ⟨mm_d_Ga_frame, List.forall_mem_cons.mpr ⟨mm_d_Ga_input, List.forall_mem_cons.mpr ⟨mm_d_Ga_run, List.forall_mem_cons.mpr ⟨mm_d_Ga_value, List.forall_mem_cons.mpr ⟨mm_d_Ga_output, List.forall_mem_cons.mpr ⟨mm_d_Ga_told, List.forall_mem_cons.mpr ⟨mm_d_Ga_placeOf, List.forall_mem_cons.mpr ⟨mm_d_Ga_within, List.forall_mem_cons.mpr ⟨mm_d_Mo_init, List.forall_mem_cons.mpr ⟨mm_d_Mo_within, List.forall_mem_cons.mpr ⟨mm_d_Mo_isClass, List.forall_mem_cons.mpr ⟨mm_d_Mo_isMethod, fun _ h => absurd h List.not_mem_nil⟩⟩⟩⟩⟩⟩⟩⟩⟩⟩⟩⟩⟩⟩⟩⟩
theorem mm_ms_1_8 : ∀ M ∈ [mm_m_Mo_frozen, mm_m_Mo_isBelow, mm_m_Mo_says, mm_m_Mo_cls, mm_m_Mo_field, mm_m_Mo_own, mm_m_Mo_find, mm_m_Mo_method, mm_m_Mo_param, mm_m_Mo_say, mm_m_Mo_result, mm_m_Mo_builtIn, mm_m_Mo_add, mm_m_Mo_guard, mm_m_Mo_wipe, mm_m_Mo_guardOf], ∀ e ∈ M.2.2.2.2.2.2, mm_ok1 M e = true := List.forall_mem_cons.mpr ⟨mm_d_Mo_frozen, List.forall_mem_cons.mpr ⟨mm_d_Mo_isBelow, List.forall_mem_cons.mpr ⟨mm_d_Mo_says, List.forall_mem_cons.mpr ⟨mm_d_Mo_cls, List.forall_mem_cons.mpr ⟨mm_d_Mo_field, List.forall_mem_cons.mpr ⟨mm_d_Mo_own, List.forall_mem_cons.mpr ⟨mm_d_Mo_find, List.forall_mem_cons.mpr ⟨mm_d_Mo_method, List.forall_mem_cons.mpr ⟨mm_d_Mo_param, List.forall_mem_cons.mpr ⟨mm_d_Mo_say, List.forall_mem_cons.mpr ⟨mm_d_Mo_result, List.forall_mem_cons.mpr ⟨mm_d_Mo_builtIn, List.forall_mem_cons.mpr ⟨mm_d_Mo_add, List.forall_mem_cons.mpr ⟨mm_d_Mo_guard, List.forall_mem_cons.mpr ⟨mm_d_Mo_wipe, List.forall_mem_cons.mpr ⟨mm_d_Mo_guardOf, fun _ h => absurd h List.not_mem_nil⟩⟩⟩⟩⟩⟩⟩⟩⟩⟩⟩⟩⟩⟩⟩⟩
theorem mm_ms_1_9 : ∀ M ∈ [mm_m_Mo_pops, mm_m_Mo_pushes, mm_m_Mo_wayOf, mm_m_Mo_isShort, mm_m_Mo_set, mm_m_Mo_push, mm_m_Mo_pushSaid, mm_m_Mo_start, mm_m_Mo_take, mm_m_Mo_keep, mm_m_Mo_come, mm_m_Mo_join, mm_m_Mo_settle, mm_m_Mo_look, mm_m_Mo_flow, mm_m_Mo_effect], ∀ e ∈ M.2.2.2.2.2.2, mm_ok1 M e = true := List.forall_mem_cons.mpr ⟨mm_d_Mo_pops, List.forall_mem_cons.mpr ⟨mm_d_Mo_pushes, List.forall_mem_cons.mpr ⟨mm_d_Mo_wayOf, List.forall_mem_cons.mpr ⟨mm_d_Mo_isShort, List.forall_mem_cons.mpr ⟨mm_d_Mo_set, List.forall_mem_cons.mpr ⟨mm_d_Mo_push, List.forall_mem_cons.mpr ⟨mm_d_Mo_pushSaid, List.forall_mem_cons.mpr ⟨mm_d_Mo_start, List.forall_mem_cons.mpr ⟨mm_d_Mo_take, List.forall_mem_cons.mpr ⟨mm_d_Mo_keep, List.forall_mem_cons.mpr ⟨mm_d_Mo_come, List.forall_mem_cons.mpr ⟨mm_d_Mo_join, List.forall_mem_cons.mpr ⟨mm_d_Mo_settle, List.forall_mem_cons.mpr ⟨mm_d_Mo_look, List.forall_mem_cons.mpr ⟨mm_d_Mo_flow, List.forall_mem_cons.mpr ⟨mm_d_Mo_effect, fun _ h => absurd h List.not_mem_nil⟩⟩⟩⟩⟩⟩⟩⟩⟩⟩⟩⟩⟩⟩⟩⟩
theorem mm_ms_1_10 : ∀ M ∈ [mm_m_Mo_wrongFor, mm_m_Mo_isRef, mm_m_Mo_wrongObject, mm_m_Mo_least, mm_m_Mo_errorAt, mm_m_Mo_wrongCall, mm_m_Mo_lacks, mm_m_Mo_isOutside, mm_m_Mo_inspect, mm_m_Mo_check, mm_m_Mo_parts, mm_m_Mo_varies, mm_m_Mo_load, mm_m_Mo_isLoaded, mm_m_Mo_place, mm_m_Mo_frame], ∀ e ∈ M.2.2.2.2.2.2, mm_ok1 M e = true := List.forall_mem_cons.mpr ⟨mm_d_Mo_wrongFor, List.forall_mem_cons.mpr ⟨mm_d_Mo_isRef, List.forall_mem_cons.mpr ⟨mm_d_Mo_wrongObject, List.forall_mem_cons.mpr ⟨mm_d_Mo_least, List.forall_mem_cons.mpr ⟨mm_d_Mo_errorAt, List.forall_mem_cons.mpr ⟨mm_d_Mo_wrongCall, List.forall_mem_cons.mpr ⟨mm_d_Mo_lacks, List.forall_mem_cons.mpr ⟨mm_d_Mo_isOutside, List.forall_mem_cons.mpr ⟨mm_d_Mo_inspect, List.forall_mem_cons.mpr ⟨mm_d_Mo_check, List.forall_mem_cons.mpr ⟨mm_d_Mo_parts, List.forall_mem_cons.mpr ⟨mm_d_Mo_varies, List.forall_mem_cons.mpr ⟨mm_d_Mo_load, List.forall_mem_cons.mpr ⟨mm_d_Mo_isLoaded, List.forall_mem_cons.mpr ⟨mm_d_Mo_place, List.forall_mem_cons.mpr ⟨mm_d_Mo_frame, fun _ h => absurd h List.not_mem_nil⟩⟩⟩⟩⟩⟩⟩⟩⟩⟩⟩⟩⟩⟩⟩⟩
theorem mm_ms_1_11 : ∀ M ∈ [mm_m_Mo_input, mm_m_Mo_run, mm_m_Mo_enter, mm_m_Mo_pull, mm_m_Mo_lay, mm_m_Mo_step, mm_m_Mo_make, mm_m_Mo_call, mm_m_Mo_outside, mm_m_Mo_give, mm_m_Mo_raise, mm_m_Mo_value, mm_m_Mo_output, mm_m_Mo_told], ∀ e ∈ M.2.2.2.2.2.2, mm_ok1 M e = true := List.forall_mem_cons.mpr ⟨mm_d_Mo_input, List.forall_mem_cons.mpr ⟨mm_d_Mo_run, List.forall_mem_cons.mpr ⟨mm_d_Mo_enter, List.forall_mem_cons.mpr ⟨mm_d_Mo_pull, List.forall_mem_cons.mpr ⟨mm_d_Mo_lay, List.forall_mem_cons.mpr ⟨mm_d_Mo_step, List.forall_mem_cons.mpr ⟨mm_d_Mo_make, List.forall_mem_cons.mpr ⟨mm_d_Mo_call, List.forall_mem_cons.mpr ⟨mm_d_Mo_outside, List.forall_mem_cons.mpr ⟨mm_d_Mo_give, List.forall_mem_cons.mpr ⟨mm_d_Mo_raise, List.forall_mem_cons.mpr ⟨mm_d_Mo_value, List.forall_mem_cons.mpr ⟨mm_d_Mo_output, List.forall_mem_cons.mpr ⟨mm_d_Mo_told, fun _ h => absurd h List.not_mem_nil⟩⟩⟩⟩⟩⟩⟩⟩⟩⟩⟩⟩⟩⟩
theorem mm_ms_1 : ∀ M ∈ mm_ms, ∀ e ∈ M.2.2.2.2.2.2, mm_ok1 M e = true := by
  have e : mm_ms = [mm_m_Op_goesOn, mm_m_Op_jumps, mm_m_Op_mayThrow, mm_m_Va_of, mm_m_Va_ofPlace, mm_m_Va_kind, mm_m_Va_classOf, mm_m_Va_may, mm_m_Va_marks, mm_m_Va_origin, mm_m_Va_withOrigin, mm_m_Va_withKind, mm_m_Va_notNull, mm_m_Va_join, mm_m_Va_part, mm_m_Pl_init] ++ ([mm_m_Pl_become, mm_m_Me_init, mm_m_Me_addParam, mm_m_Me_addInstruction, mm_m_Me_addGuard, mm_m_Me_clear, mm_m_Me_isBuiltIn, mm_m_Me_gives, mm_m_Me_takes, mm_m_Me_firstParam, mm_m_Me_caughtAt, mm_m_St_init, mm_m_St_makeClass, mm_m_St_makeField, mm_m_St_makeMethod, mm_m_St_isClass] ++ ([mm_m_St_isMethod, mm_m_St_isPlace, mm_m_St_isArgument, mm_m_St_below, mm_m_St_common, mm_m_St_own, mm_m_St_nearest, mm_m_St_pops, mm_m_St_breaksStack, mm_m_St_canStart, mm_m_Fr_init, mm_m_Fr_become, mm_m_Fr_push, mm_m_Fr_pop, mm_m_Fr_under, mm_m_Fr_store] ++ ([mm_m_Fr_leaveSite, mm_m_Fr_join, mm_m_Ru_init, mm_m_Ru_wayError, mm_m_Ru_leadsAway, mm_m_Ru_valueError, mm_m_Ru_first, mm_m_Ru_intError, mm_m_Ru_isReference, mm_m_Ru_referenceError, mm_m_Ru_holderError, mm_m_Ru_comingError, mm_m_Ru_callError, mm_m_Ru_builtError, mm_m_Ru_isFitBuiltIn, mm_m_Ru_fits] ++ ([mm_m_Ru_fitsWithMarks, mm_m_Ru_mayReplace, mm_m_Lo_init, mm_m_Lo_frameAt, mm_m_Lo_through, mm_m_Lo_departs, mm_m_Lo_begin, mm_m_Lo_settle, mm_m_Lo_leave, mm_m_Lo_beginCatch, mm_m_Lo_arrive, mm_m_Lo_applyToValues, mm_m_Lo_applyToStock, mm_m_Lo_get, mm_m_Lo_put, mm_m_Lo_call] ++ ([mm_m_Lo_isNull, mm_m_Ac_init, mm_m_Ac_begin, mm_m_Ac_push, mm_m_Ac_pop, mm_m_Ma_init, mm_m_Ma_addInput, mm_m_Ma_start, mm_m_Ma_enter, mm_m_Ma_perform, mm_m_Ma_performOnObjects, mm_m_Ma_pushAndGoOn, mm_m_Ma_isObject, mm_m_Ma_makeObject, mm_m_Ma_get, mm_m_Ma_put] ++ ([mm_m_Ma_cast, mm_m_Ma_call, mm_m_Ma_callBuiltIn, mm_m_Ma_give, mm_m_Ma_classOf, mm_m_Ma_raise, mm_m_Ga_init, mm_m_Ga_cls, mm_m_Ga_field, mm_m_Ga_method, mm_m_Ga_param, mm_m_Ga_result, mm_m_Ga_builtIn, mm_m_Ga_add, mm_m_Ga_guard, mm_m_Ga_wipe] ++ ([mm_m_Ga_check, mm_m_Ga_load, mm_m_Ga_isLoaded, mm_m_Ga_place, mm_m_Ga_frame, mm_m_Ga_input, mm_m_Ga_run, mm_m_Ga_value, mm_m_Ga_output, mm_m_Ga_told, mm_m_Ga_placeOf, mm_m_Ga_within, mm_m_Mo_init, mm_m_Mo_within, mm_m_Mo_isClass, mm_m_Mo_isMethod] ++ ([mm_m_Mo_frozen, mm_m_Mo_isBelow, mm_m_Mo_says, mm_m_Mo_cls, mm_m_Mo_field, mm_m_Mo_own, mm_m_Mo_find, mm_m_Mo_method, mm_m_Mo_param, mm_m_Mo_say, mm_m_Mo_result, mm_m_Mo_builtIn, mm_m_Mo_add, mm_m_Mo_guard, mm_m_Mo_wipe, mm_m_Mo_guardOf] ++ ([mm_m_Mo_pops, mm_m_Mo_pushes, mm_m_Mo_wayOf, mm_m_Mo_isShort, mm_m_Mo_set, mm_m_Mo_push, mm_m_Mo_pushSaid, mm_m_Mo_start, mm_m_Mo_take, mm_m_Mo_keep, mm_m_Mo_come, mm_m_Mo_join, mm_m_Mo_settle, mm_m_Mo_look, mm_m_Mo_flow, mm_m_Mo_effect] ++ ([mm_m_Mo_wrongFor, mm_m_Mo_isRef, mm_m_Mo_wrongObject, mm_m_Mo_least, mm_m_Mo_errorAt, mm_m_Mo_wrongCall, mm_m_Mo_lacks, mm_m_Mo_isOutside, mm_m_Mo_inspect, mm_m_Mo_check, mm_m_Mo_parts, mm_m_Mo_varies, mm_m_Mo_load, mm_m_Mo_isLoaded, mm_m_Mo_place, mm_m_Mo_frame] ++ ([mm_m_Mo_input, mm_m_Mo_run, mm_m_Mo_enter, mm_m_Mo_pull, mm_m_Mo_lay, mm_m_Mo_step, mm_m_Mo_make, mm_m_Mo_call, mm_m_Mo_outside, mm_m_Mo_give, mm_m_Mo_raise, mm_m_Mo_value, mm_m_Mo_output, mm_m_Mo_told]))))))))))) := rfl
  rw [e]
  exact List.forall_mem_append.mpr ⟨mm_ms_1_0, List.forall_mem_append.mpr ⟨mm_ms_1_1, List.forall_mem_append.mpr ⟨mm_ms_1_2, List.forall_mem_append.mpr ⟨mm_ms_1_3, List.forall_mem_append.mpr ⟨mm_ms_1_4, List.forall_mem_append.mpr ⟨mm_ms_1_5, List.forall_mem_append.mpr ⟨mm_ms_1_6, List.forall_mem_append.mpr ⟨mm_ms_1_7, List.forall_mem_append.mpr ⟨mm_ms_1_8, List.forall_mem_append.mpr ⟨mm_ms_1_9, List.forall_mem_append.mpr ⟨mm_ms_1_10, mm_ms_1_11⟩⟩⟩⟩⟩⟩⟩⟩⟩⟩⟩
theorem mm_ms_2_0 : ∀ M ∈ [mm_m_Op_goesOn, mm_m_Op_jumps, mm_m_Op_mayThrow, mm_m_Va_of, mm_m_Va_ofPlace, mm_m_Va_kind, mm_m_Va_classOf, mm_m_Va_may, mm_m_Va_marks, mm_m_Va_origin, mm_m_Va_withOrigin, mm_m_Va_withKind, mm_m_Va_notNull, mm_m_Va_join, mm_m_Va_part, mm_m_Pl_init], mm_ok2 M := List.forall_mem_cons.mpr ⟨mm_e_Op_goesOn, List.forall_mem_cons.mpr ⟨mm_e_Op_jumps, List.forall_mem_cons.mpr ⟨mm_e_Op_mayThrow, List.forall_mem_cons.mpr ⟨mm_e_Va_of, List.forall_mem_cons.mpr ⟨mm_e_Va_ofPlace, List.forall_mem_cons.mpr ⟨mm_e_Va_kind, List.forall_mem_cons.mpr ⟨mm_e_Va_classOf, List.forall_mem_cons.mpr ⟨mm_e_Va_may, List.forall_mem_cons.mpr ⟨mm_e_Va_marks, List.forall_mem_cons.mpr ⟨mm_e_Va_origin, List.forall_mem_cons.mpr ⟨mm_e_Va_withOrigin, List.forall_mem_cons.mpr ⟨mm_e_Va_withKind, List.forall_mem_cons.mpr ⟨mm_e_Va_notNull, List.forall_mem_cons.mpr ⟨mm_e_Va_join, List.forall_mem_cons.mpr ⟨mm_e_Va_part, List.forall_mem_cons.mpr ⟨mm_e_Pl_init, fun _ h => absurd h List.not_mem_nil⟩⟩⟩⟩⟩⟩⟩⟩⟩⟩⟩⟩⟩⟩⟩⟩
theorem mm_ms_2_1 : ∀ M ∈ [mm_m_Pl_become, mm_m_Me_init, mm_m_Me_addParam, mm_m_Me_addInstruction, mm_m_Me_addGuard, mm_m_Me_clear, mm_m_Me_isBuiltIn, mm_m_Me_gives, mm_m_Me_takes, mm_m_Me_firstParam, mm_m_Me_caughtAt, mm_m_St_init, mm_m_St_makeClass, mm_m_St_makeField, mm_m_St_makeMethod, mm_m_St_isClass], mm_ok2 M := List.forall_mem_cons.mpr ⟨mm_e_Pl_become, List.forall_mem_cons.mpr ⟨mm_e_Me_init, List.forall_mem_cons.mpr ⟨mm_e_Me_addParam, List.forall_mem_cons.mpr ⟨mm_e_Me_addInstruction, List.forall_mem_cons.mpr ⟨mm_e_Me_addGuard, List.forall_mem_cons.mpr ⟨mm_e_Me_clear, List.forall_mem_cons.mpr ⟨mm_e_Me_isBuiltIn, List.forall_mem_cons.mpr ⟨mm_e_Me_gives, List.forall_mem_cons.mpr ⟨mm_e_Me_takes, List.forall_mem_cons.mpr ⟨mm_e_Me_firstParam, List.forall_mem_cons.mpr ⟨mm_e_Me_caughtAt, List.forall_mem_cons.mpr ⟨mm_e_St_init, List.forall_mem_cons.mpr ⟨mm_e_St_makeClass, List.forall_mem_cons.mpr ⟨mm_e_St_makeField, List.forall_mem_cons.mpr ⟨mm_e_St_makeMethod, List.forall_mem_cons.mpr ⟨mm_e_St_isClass, fun _ h => absurd h List.not_mem_nil⟩⟩⟩⟩⟩⟩⟩⟩⟩⟩⟩⟩⟩⟩⟩⟩
theorem mm_ms_2_2 : ∀ M ∈ [mm_m_St_isMethod, mm_m_St_isPlace, mm_m_St_isArgument, mm_m_St_below, mm_m_St_common, mm_m_St_own, mm_m_St_nearest, mm_m_St_pops, mm_m_St_breaksStack, mm_m_St_canStart, mm_m_Fr_init, mm_m_Fr_become, mm_m_Fr_push, mm_m_Fr_pop, mm_m_Fr_under, mm_m_Fr_store], mm_ok2 M := List.forall_mem_cons.mpr ⟨mm_e_St_isMethod, List.forall_mem_cons.mpr ⟨mm_e_St_isPlace, List.forall_mem_cons.mpr ⟨mm_e_St_isArgument, List.forall_mem_cons.mpr ⟨mm_e_St_below, List.forall_mem_cons.mpr ⟨mm_e_St_common, List.forall_mem_cons.mpr ⟨mm_e_St_own, List.forall_mem_cons.mpr ⟨mm_e_St_nearest, List.forall_mem_cons.mpr ⟨mm_e_St_pops, List.forall_mem_cons.mpr ⟨mm_e_St_breaksStack, List.forall_mem_cons.mpr ⟨mm_e_St_canStart, List.forall_mem_cons.mpr ⟨mm_e_Fr_init, List.forall_mem_cons.mpr ⟨mm_e_Fr_become, List.forall_mem_cons.mpr ⟨mm_e_Fr_push, List.forall_mem_cons.mpr ⟨mm_e_Fr_pop, List.forall_mem_cons.mpr ⟨mm_e_Fr_under, List.forall_mem_cons.mpr ⟨mm_e_Fr_store, fun _ h => absurd h List.not_mem_nil⟩⟩⟩⟩⟩⟩⟩⟩⟩⟩⟩⟩⟩⟩⟩⟩
theorem mm_ms_2_3 : ∀ M ∈ [mm_m_Fr_leaveSite, mm_m_Fr_join, mm_m_Ru_init, mm_m_Ru_wayError, mm_m_Ru_leadsAway, mm_m_Ru_valueError, mm_m_Ru_first, mm_m_Ru_intError, mm_m_Ru_isReference, mm_m_Ru_referenceError, mm_m_Ru_holderError, mm_m_Ru_comingError, mm_m_Ru_callError, mm_m_Ru_builtError, mm_m_Ru_isFitBuiltIn, mm_m_Ru_fits], mm_ok2 M := List.forall_mem_cons.mpr ⟨mm_e_Fr_leaveSite, List.forall_mem_cons.mpr ⟨mm_e_Fr_join, List.forall_mem_cons.mpr ⟨mm_e_Ru_init, List.forall_mem_cons.mpr ⟨mm_e_Ru_wayError, List.forall_mem_cons.mpr ⟨mm_e_Ru_leadsAway, List.forall_mem_cons.mpr ⟨mm_e_Ru_valueError, List.forall_mem_cons.mpr ⟨mm_e_Ru_first, List.forall_mem_cons.mpr ⟨mm_e_Ru_intError, List.forall_mem_cons.mpr ⟨mm_e_Ru_isReference, List.forall_mem_cons.mpr ⟨mm_e_Ru_referenceError, List.forall_mem_cons.mpr ⟨mm_e_Ru_holderError, List.forall_mem_cons.mpr ⟨mm_e_Ru_comingError, List.forall_mem_cons.mpr ⟨mm_e_Ru_callError, List.forall_mem_cons.mpr ⟨mm_e_Ru_builtError, List.forall_mem_cons.mpr ⟨mm_e_Ru_isFitBuiltIn, List.forall_mem_cons.mpr ⟨mm_e_Ru_fits, fun _ h => absurd h List.not_mem_nil⟩⟩⟩⟩⟩⟩⟩⟩⟩⟩⟩⟩⟩⟩⟩⟩
theorem mm_ms_2_4 : ∀ M ∈ [mm_m_Ru_fitsWithMarks, mm_m_Ru_mayReplace, mm_m_Lo_init, mm_m_Lo_frameAt, mm_m_Lo_through, mm_m_Lo_departs, mm_m_Lo_begin, mm_m_Lo_settle, mm_m_Lo_leave, mm_m_Lo_beginCatch, mm_m_Lo_arrive, mm_m_Lo_applyToValues, mm_m_Lo_applyToStock, mm_m_Lo_get, mm_m_Lo_put, mm_m_Lo_call], mm_ok2 M := List.forall_mem_cons.mpr ⟨mm_e_Ru_fitsWithMarks, List.forall_mem_cons.mpr ⟨mm_e_Ru_mayReplace, List.forall_mem_cons.mpr ⟨mm_e_Lo_init, List.forall_mem_cons.mpr ⟨mm_e_Lo_frameAt, List.forall_mem_cons.mpr ⟨mm_e_Lo_through, List.forall_mem_cons.mpr ⟨mm_e_Lo_departs, List.forall_mem_cons.mpr ⟨mm_e_Lo_begin, List.forall_mem_cons.mpr ⟨mm_e_Lo_settle, List.forall_mem_cons.mpr ⟨mm_e_Lo_leave, List.forall_mem_cons.mpr ⟨mm_e_Lo_beginCatch, List.forall_mem_cons.mpr ⟨mm_e_Lo_arrive, List.forall_mem_cons.mpr ⟨mm_e_Lo_applyToValues, List.forall_mem_cons.mpr ⟨mm_e_Lo_applyToStock, List.forall_mem_cons.mpr ⟨mm_e_Lo_get, List.forall_mem_cons.mpr ⟨mm_e_Lo_put, List.forall_mem_cons.mpr ⟨mm_e_Lo_call, fun _ h => absurd h List.not_mem_nil⟩⟩⟩⟩⟩⟩⟩⟩⟩⟩⟩⟩⟩⟩⟩⟩
theorem mm_ms_2_5 : ∀ M ∈ [mm_m_Lo_isNull, mm_m_Ac_init, mm_m_Ac_begin, mm_m_Ac_push, mm_m_Ac_pop, mm_m_Ma_init, mm_m_Ma_addInput, mm_m_Ma_start, mm_m_Ma_enter, mm_m_Ma_perform, mm_m_Ma_performOnObjects, mm_m_Ma_pushAndGoOn, mm_m_Ma_isObject, mm_m_Ma_makeObject, mm_m_Ma_get, mm_m_Ma_put], mm_ok2 M := List.forall_mem_cons.mpr ⟨mm_e_Lo_isNull, List.forall_mem_cons.mpr ⟨mm_e_Ac_init, List.forall_mem_cons.mpr ⟨mm_e_Ac_begin, List.forall_mem_cons.mpr ⟨mm_e_Ac_push, List.forall_mem_cons.mpr ⟨mm_e_Ac_pop, List.forall_mem_cons.mpr ⟨mm_e_Ma_init, List.forall_mem_cons.mpr ⟨mm_e_Ma_addInput, List.forall_mem_cons.mpr ⟨mm_e_Ma_start, List.forall_mem_cons.mpr ⟨mm_e_Ma_enter, List.forall_mem_cons.mpr ⟨mm_e_Ma_perform, List.forall_mem_cons.mpr ⟨mm_e_Ma_performOnObjects, List.forall_mem_cons.mpr ⟨mm_e_Ma_pushAndGoOn, List.forall_mem_cons.mpr ⟨mm_e_Ma_isObject, List.forall_mem_cons.mpr ⟨mm_e_Ma_makeObject, List.forall_mem_cons.mpr ⟨mm_e_Ma_get, List.forall_mem_cons.mpr ⟨mm_e_Ma_put, fun _ h => absurd h List.not_mem_nil⟩⟩⟩⟩⟩⟩⟩⟩⟩⟩⟩⟩⟩⟩⟩⟩
theorem mm_ms_2_6 : ∀ M ∈ [mm_m_Ma_cast, mm_m_Ma_call, mm_m_Ma_callBuiltIn, mm_m_Ma_give, mm_m_Ma_classOf, mm_m_Ma_raise, mm_m_Ga_init, mm_m_Ga_cls, mm_m_Ga_field, mm_m_Ga_method, mm_m_Ga_param, mm_m_Ga_result, mm_m_Ga_builtIn, mm_m_Ga_add, mm_m_Ga_guard, mm_m_Ga_wipe], mm_ok2 M := List.forall_mem_cons.mpr ⟨mm_e_Ma_cast, List.forall_mem_cons.mpr ⟨mm_e_Ma_call, List.forall_mem_cons.mpr ⟨mm_e_Ma_callBuiltIn, List.forall_mem_cons.mpr ⟨mm_e_Ma_give, List.forall_mem_cons.mpr ⟨mm_e_Ma_classOf, List.forall_mem_cons.mpr ⟨mm_e_Ma_raise, List.forall_mem_cons.mpr ⟨mm_e_Ga_init, List.forall_mem_cons.mpr ⟨mm_e_Ga_cls, List.forall_mem_cons.mpr ⟨mm_e_Ga_field, List.forall_mem_cons.mpr ⟨mm_e_Ga_method, List.forall_mem_cons.mpr ⟨mm_e_Ga_param, List.forall_mem_cons.mpr ⟨mm_e_Ga_result, List.forall_mem_cons.mpr ⟨mm_e_Ga_builtIn, List.forall_mem_cons.mpr ⟨mm_e_Ga_add, List.forall_mem_cons.mpr ⟨mm_e_Ga_guard, List.forall_mem_cons.mpr ⟨mm_e_Ga_wipe, fun _ h => absurd h List.not_mem_nil⟩⟩⟩⟩⟩⟩⟩⟩⟩⟩⟩⟩⟩⟩⟩⟩
theorem mm_ms_2_7 : ∀ M ∈ [mm_m_Ga_check, mm_m_Ga_load, mm_m_Ga_isLoaded, mm_m_Ga_place, mm_m_Ga_frame, mm_m_Ga_input, mm_m_Ga_run, mm_m_Ga_value, mm_m_Ga_output, mm_m_Ga_told, mm_m_Ga_placeOf, mm_m_Ga_within, mm_m_Mo_init, mm_m_Mo_within, mm_m_Mo_isClass, mm_m_Mo_isMethod], mm_ok2 M := List.forall_mem_cons.mpr ⟨mm_e_Ga_check, List.forall_mem_cons.mpr ⟨mm_e_Ga_load, List.forall_mem_cons.mpr ⟨mm_e_Ga_isLoaded, List.forall_mem_cons.mpr ⟨mm_e_Ga_place, List.forall_mem_cons.mpr ⟨mm_e_Ga_frame, List.forall_mem_cons.mpr ⟨mm_e_Ga_input, List.forall_mem_cons.mpr ⟨mm_e_Ga_run, List.forall_mem_cons.mpr ⟨mm_e_Ga_value, List.forall_mem_cons.mpr ⟨mm_e_Ga_output, List.forall_mem_cons.mpr ⟨mm_e_Ga_told, List.forall_mem_cons.mpr ⟨mm_e_Ga_placeOf, List.forall_mem_cons.mpr ⟨mm_e_Ga_within, List.forall_mem_cons.mpr ⟨mm_e_Mo_init, List.forall_mem_cons.mpr ⟨mm_e_Mo_within, List.forall_mem_cons.mpr ⟨mm_e_Mo_isClass, List.forall_mem_cons.mpr ⟨mm_e_Mo_isMethod, fun _ h => absurd h List.not_mem_nil⟩⟩⟩⟩⟩⟩⟩⟩⟩⟩⟩⟩⟩⟩⟩⟩
theorem mm_ms_2_8 : ∀ M ∈ [mm_m_Mo_frozen, mm_m_Mo_isBelow, mm_m_Mo_says, mm_m_Mo_cls, mm_m_Mo_field, mm_m_Mo_own, mm_m_Mo_find, mm_m_Mo_method, mm_m_Mo_param, mm_m_Mo_say, mm_m_Mo_result, mm_m_Mo_builtIn, mm_m_Mo_add, mm_m_Mo_guard, mm_m_Mo_wipe, mm_m_Mo_guardOf], mm_ok2 M := List.forall_mem_cons.mpr ⟨mm_e_Mo_frozen, List.forall_mem_cons.mpr ⟨mm_e_Mo_isBelow, List.forall_mem_cons.mpr ⟨mm_e_Mo_says, List.forall_mem_cons.mpr ⟨mm_e_Mo_cls, List.forall_mem_cons.mpr ⟨mm_e_Mo_field, List.forall_mem_cons.mpr ⟨mm_e_Mo_own, List.forall_mem_cons.mpr ⟨mm_e_Mo_find, List.forall_mem_cons.mpr ⟨mm_e_Mo_method, List.forall_mem_cons.mpr ⟨mm_e_Mo_param, List.forall_mem_cons.mpr ⟨mm_e_Mo_say, List.forall_mem_cons.mpr ⟨mm_e_Mo_result, List.forall_mem_cons.mpr ⟨mm_e_Mo_builtIn, List.forall_mem_cons.mpr ⟨mm_e_Mo_add, List.forall_mem_cons.mpr ⟨mm_e_Mo_guard, List.forall_mem_cons.mpr ⟨mm_e_Mo_wipe, List.forall_mem_cons.mpr ⟨mm_e_Mo_guardOf, fun _ h => absurd h List.not_mem_nil⟩⟩⟩⟩⟩⟩⟩⟩⟩⟩⟩⟩⟩⟩⟩⟩
theorem mm_ms_2_9 : ∀ M ∈ [mm_m_Mo_pops, mm_m_Mo_pushes, mm_m_Mo_wayOf, mm_m_Mo_isShort, mm_m_Mo_set, mm_m_Mo_push, mm_m_Mo_pushSaid, mm_m_Mo_start, mm_m_Mo_take, mm_m_Mo_keep, mm_m_Mo_come, mm_m_Mo_join, mm_m_Mo_settle, mm_m_Mo_look, mm_m_Mo_flow, mm_m_Mo_effect], mm_ok2 M := List.forall_mem_cons.mpr ⟨mm_e_Mo_pops, List.forall_mem_cons.mpr ⟨mm_e_Mo_pushes, List.forall_mem_cons.mpr ⟨mm_e_Mo_wayOf, List.forall_mem_cons.mpr ⟨mm_e_Mo_isShort, List.forall_mem_cons.mpr ⟨mm_e_Mo_set, List.forall_mem_cons.mpr ⟨mm_e_Mo_push, List.forall_mem_cons.mpr ⟨mm_e_Mo_pushSaid, List.forall_mem_cons.mpr ⟨mm_e_Mo_start, List.forall_mem_cons.mpr ⟨mm_e_Mo_take, List.forall_mem_cons.mpr ⟨mm_e_Mo_keep, List.forall_mem_cons.mpr ⟨mm_e_Mo_come, List.forall_mem_cons.mpr ⟨mm_e_Mo_join, List.forall_mem_cons.mpr ⟨mm_e_Mo_settle, List.forall_mem_cons.mpr ⟨mm_e_Mo_look, List.forall_mem_cons.mpr ⟨mm_e_Mo_flow, List.forall_mem_cons.mpr ⟨mm_e_Mo_effect, fun _ h => absurd h List.not_mem_nil⟩⟩⟩⟩⟩⟩⟩⟩⟩⟩⟩⟩⟩⟩⟩⟩
theorem mm_ms_2_10 : ∀ M ∈ [mm_m_Mo_wrongFor, mm_m_Mo_isRef, mm_m_Mo_wrongObject, mm_m_Mo_least, mm_m_Mo_errorAt, mm_m_Mo_wrongCall, mm_m_Mo_lacks, mm_m_Mo_isOutside, mm_m_Mo_inspect, mm_m_Mo_check, mm_m_Mo_parts, mm_m_Mo_varies, mm_m_Mo_load, mm_m_Mo_isLoaded, mm_m_Mo_place, mm_m_Mo_frame], mm_ok2 M := List.forall_mem_cons.mpr ⟨mm_e_Mo_wrongFor, List.forall_mem_cons.mpr ⟨mm_e_Mo_isRef, List.forall_mem_cons.mpr ⟨mm_e_Mo_wrongObject, List.forall_mem_cons.mpr ⟨mm_e_Mo_least, List.forall_mem_cons.mpr ⟨mm_e_Mo_errorAt, List.forall_mem_cons.mpr ⟨mm_e_Mo_wrongCall, List.forall_mem_cons.mpr ⟨mm_e_Mo_lacks, List.forall_mem_cons.mpr ⟨mm_e_Mo_isOutside, List.forall_mem_cons.mpr ⟨mm_e_Mo_inspect, List.forall_mem_cons.mpr ⟨mm_e_Mo_check, List.forall_mem_cons.mpr ⟨mm_e_Mo_parts, List.forall_mem_cons.mpr ⟨mm_e_Mo_varies, List.forall_mem_cons.mpr ⟨mm_e_Mo_load, List.forall_mem_cons.mpr ⟨mm_e_Mo_isLoaded, List.forall_mem_cons.mpr ⟨mm_e_Mo_place, List.forall_mem_cons.mpr ⟨mm_e_Mo_frame, fun _ h => absurd h List.not_mem_nil⟩⟩⟩⟩⟩⟩⟩⟩⟩⟩⟩⟩⟩⟩⟩⟩
theorem mm_ms_2_11 : ∀ M ∈ [mm_m_Mo_input, mm_m_Mo_run, mm_m_Mo_enter, mm_m_Mo_pull, mm_m_Mo_lay, mm_m_Mo_step, mm_m_Mo_make, mm_m_Mo_call, mm_m_Mo_outside, mm_m_Mo_give, mm_m_Mo_raise, mm_m_Mo_value, mm_m_Mo_output, mm_m_Mo_told], mm_ok2 M := List.forall_mem_cons.mpr ⟨mm_e_Mo_input, List.forall_mem_cons.mpr ⟨mm_e_Mo_run, List.forall_mem_cons.mpr ⟨mm_e_Mo_enter, List.forall_mem_cons.mpr ⟨mm_e_Mo_pull, List.forall_mem_cons.mpr ⟨mm_e_Mo_lay, List.forall_mem_cons.mpr ⟨mm_e_Mo_step, List.forall_mem_cons.mpr ⟨mm_e_Mo_make, List.forall_mem_cons.mpr ⟨mm_e_Mo_call, List.forall_mem_cons.mpr ⟨mm_e_Mo_outside, List.forall_mem_cons.mpr ⟨mm_e_Mo_give, List.forall_mem_cons.mpr ⟨mm_e_Mo_raise, List.forall_mem_cons.mpr ⟨mm_e_Mo_value, List.forall_mem_cons.mpr ⟨mm_e_Mo_output, List.forall_mem_cons.mpr ⟨mm_e_Mo_told, fun _ h => absurd h List.not_mem_nil⟩⟩⟩⟩⟩⟩⟩⟩⟩⟩⟩⟩⟩⟩
theorem mm_ms_2 : ∀ M ∈ mm_ms, mm_ok2 M := by
  have e : mm_ms = [mm_m_Op_goesOn, mm_m_Op_jumps, mm_m_Op_mayThrow, mm_m_Va_of, mm_m_Va_ofPlace, mm_m_Va_kind, mm_m_Va_classOf, mm_m_Va_may, mm_m_Va_marks, mm_m_Va_origin, mm_m_Va_withOrigin, mm_m_Va_withKind, mm_m_Va_notNull, mm_m_Va_join, mm_m_Va_part, mm_m_Pl_init] ++ ([mm_m_Pl_become, mm_m_Me_init, mm_m_Me_addParam, mm_m_Me_addInstruction, mm_m_Me_addGuard, mm_m_Me_clear, mm_m_Me_isBuiltIn, mm_m_Me_gives, mm_m_Me_takes, mm_m_Me_firstParam, mm_m_Me_caughtAt, mm_m_St_init, mm_m_St_makeClass, mm_m_St_makeField, mm_m_St_makeMethod, mm_m_St_isClass] ++ ([mm_m_St_isMethod, mm_m_St_isPlace, mm_m_St_isArgument, mm_m_St_below, mm_m_St_common, mm_m_St_own, mm_m_St_nearest, mm_m_St_pops, mm_m_St_breaksStack, mm_m_St_canStart, mm_m_Fr_init, mm_m_Fr_become, mm_m_Fr_push, mm_m_Fr_pop, mm_m_Fr_under, mm_m_Fr_store] ++ ([mm_m_Fr_leaveSite, mm_m_Fr_join, mm_m_Ru_init, mm_m_Ru_wayError, mm_m_Ru_leadsAway, mm_m_Ru_valueError, mm_m_Ru_first, mm_m_Ru_intError, mm_m_Ru_isReference, mm_m_Ru_referenceError, mm_m_Ru_holderError, mm_m_Ru_comingError, mm_m_Ru_callError, mm_m_Ru_builtError, mm_m_Ru_isFitBuiltIn, mm_m_Ru_fits] ++ ([mm_m_Ru_fitsWithMarks, mm_m_Ru_mayReplace, mm_m_Lo_init, mm_m_Lo_frameAt, mm_m_Lo_through, mm_m_Lo_departs, mm_m_Lo_begin, mm_m_Lo_settle, mm_m_Lo_leave, mm_m_Lo_beginCatch, mm_m_Lo_arrive, mm_m_Lo_applyToValues, mm_m_Lo_applyToStock, mm_m_Lo_get, mm_m_Lo_put, mm_m_Lo_call] ++ ([mm_m_Lo_isNull, mm_m_Ac_init, mm_m_Ac_begin, mm_m_Ac_push, mm_m_Ac_pop, mm_m_Ma_init, mm_m_Ma_addInput, mm_m_Ma_start, mm_m_Ma_enter, mm_m_Ma_perform, mm_m_Ma_performOnObjects, mm_m_Ma_pushAndGoOn, mm_m_Ma_isObject, mm_m_Ma_makeObject, mm_m_Ma_get, mm_m_Ma_put] ++ ([mm_m_Ma_cast, mm_m_Ma_call, mm_m_Ma_callBuiltIn, mm_m_Ma_give, mm_m_Ma_classOf, mm_m_Ma_raise, mm_m_Ga_init, mm_m_Ga_cls, mm_m_Ga_field, mm_m_Ga_method, mm_m_Ga_param, mm_m_Ga_result, mm_m_Ga_builtIn, mm_m_Ga_add, mm_m_Ga_guard, mm_m_Ga_wipe] ++ ([mm_m_Ga_check, mm_m_Ga_load, mm_m_Ga_isLoaded, mm_m_Ga_place, mm_m_Ga_frame, mm_m_Ga_input, mm_m_Ga_run, mm_m_Ga_value, mm_m_Ga_output, mm_m_Ga_told, mm_m_Ga_placeOf, mm_m_Ga_within, mm_m_Mo_init, mm_m_Mo_within, mm_m_Mo_isClass, mm_m_Mo_isMethod] ++ ([mm_m_Mo_frozen, mm_m_Mo_isBelow, mm_m_Mo_says, mm_m_Mo_cls, mm_m_Mo_field, mm_m_Mo_own, mm_m_Mo_find, mm_m_Mo_method, mm_m_Mo_param, mm_m_Mo_say, mm_m_Mo_result, mm_m_Mo_builtIn, mm_m_Mo_add, mm_m_Mo_guard, mm_m_Mo_wipe, mm_m_Mo_guardOf] ++ ([mm_m_Mo_pops, mm_m_Mo_pushes, mm_m_Mo_wayOf, mm_m_Mo_isShort, mm_m_Mo_set, mm_m_Mo_push, mm_m_Mo_pushSaid, mm_m_Mo_start, mm_m_Mo_take, mm_m_Mo_keep, mm_m_Mo_come, mm_m_Mo_join, mm_m_Mo_settle, mm_m_Mo_look, mm_m_Mo_flow, mm_m_Mo_effect] ++ ([mm_m_Mo_wrongFor, mm_m_Mo_isRef, mm_m_Mo_wrongObject, mm_m_Mo_least, mm_m_Mo_errorAt, mm_m_Mo_wrongCall, mm_m_Mo_lacks, mm_m_Mo_isOutside, mm_m_Mo_inspect, mm_m_Mo_check, mm_m_Mo_parts, mm_m_Mo_varies, mm_m_Mo_load, mm_m_Mo_isLoaded, mm_m_Mo_place, mm_m_Mo_frame] ++ ([mm_m_Mo_input, mm_m_Mo_run, mm_m_Mo_enter, mm_m_Mo_pull, mm_m_Mo_lay, mm_m_Mo_step, mm_m_Mo_make, mm_m_Mo_call, mm_m_Mo_outside, mm_m_Mo_give, mm_m_Mo_raise, mm_m_Mo_value, mm_m_Mo_output, mm_m_Mo_told]))))))))))) := rfl
  rw [e]
  exact List.forall_mem_append.mpr ⟨mm_ms_2_0, List.forall_mem_append.mpr ⟨mm_ms_2_1, List.forall_mem_append.mpr ⟨mm_ms_2_2, List.forall_mem_append.mpr ⟨mm_ms_2_3, List.forall_mem_append.mpr ⟨mm_ms_2_4, List.forall_mem_append.mpr ⟨mm_ms_2_5, List.forall_mem_append.mpr ⟨mm_ms_2_6, List.forall_mem_append.mpr ⟨mm_ms_2_7, List.forall_mem_append.mpr ⟨mm_ms_2_8, List.forall_mem_append.mpr ⟨mm_ms_2_9, List.forall_mem_append.mpr ⟨mm_ms_2_10, mm_ms_2_11⟩⟩⟩⟩⟩⟩⟩⟩⟩⟩⟩
theorem mm_in0 : ∀ w ∈ u_ws "QualifierGate" mm_T0 4, w ∈ mm_G := by decide +kernel
theorem mm_nm0 : ∀ a, a < 4 → ∀ b, b < 4 → a ≠ b → (mm_T0 a).2.1 ≠ (mm_T0 b).2.1 := by decide +kernel
theorem mm_tk0 : ∀ k, k < 4 → parseFieldDescriptor (mm_T0 k).2.2.1 = some (mm_y0 k) := by decide +kernel
theorem mm_in1 : ∀ w ∈ u_ws "QualifierGate$Stock" mm_T1 10, w ∈ mm_G := by decide +kernel
theorem mm_nm1 : ∀ a, a < 10 → ∀ b, b < 10 → a ≠ b → (mm_T1 a).2.1 ≠ (mm_T1 b).2.1 := by decide +kernel
theorem mm_tk1 : ∀ k, k < 10 → parseFieldDescriptor (mm_T1 k).2.2.1 = some (mm_y1 k) := by decide +kernel
theorem mm_in2 : ∀ w ∈ u_ws "QualifierGate$Look" mm_T2 7, w ∈ mm_G := by decide +kernel
theorem mm_nm2 : ∀ a, a < 7 → ∀ b, b < 7 → a ≠ b → (mm_T2 a).2.1 ≠ (mm_T2 b).2.1 := by decide +kernel
theorem mm_tk2 : ∀ k, k < 7 → parseFieldDescriptor (mm_T2 k).2.2.1 = some (mm_y2 k) := by decide +kernel
theorem mm_in3 : ∀ w ∈ u_ws "QualifierGate$Frame" mm_T3 5, w ∈ mm_G := by decide +kernel
theorem mm_nm3 : ∀ a, a < 5 → ∀ b, b < 5 → a ≠ b → (mm_T3 a).2.1 ≠ (mm_T3 b).2.1 := by decide +kernel
theorem mm_tk3 : ∀ k, k < 5 → parseFieldDescriptor (mm_T3 k).2.2.1 = some (mm_y3 k) := by decide +kernel
theorem mm_in4 : ∀ w ∈ u_ws "QualifierGate$Rules" mm_T4 1, w ∈ mm_G := by decide +kernel
theorem mm_nm4 : ∀ a, a < 1 → ∀ b, b < 1 → a ≠ b → (mm_T4 a).2.1 ≠ (mm_T4 b).2.1 := by decide +kernel
theorem mm_tk4 : ∀ k, k < 1 → parseFieldDescriptor (mm_T4 k).2.2.1 = some (mm_y4 k) := by decide +kernel
theorem mm_in5 : ∀ w ∈ u_ws "QualifierGate$Machine" mm_T5 15, w ∈ mm_G := by decide +kernel
theorem mm_nm5 : ∀ a, a < 15 → ∀ b, b < 15 → a ≠ b → (mm_T5 a).2.1 ≠ (mm_T5 b).2.1 := by decide +kernel
theorem mm_tk5 : ∀ k, k < 15 → parseFieldDescriptor (mm_T5 k).2.2.1 = some (mm_y5 k) := by decide +kernel
theorem mm_in6 : ∀ w ∈ u_ws "QualifierGate$Activation" mm_T6 5, w ∈ mm_G := by decide +kernel
theorem mm_nm6 : ∀ a, a < 5 → ∀ b, b < 5 → a ≠ b → (mm_T6 a).2.1 ≠ (mm_T6 b).2.1 := by decide +kernel
theorem mm_tk6 : ∀ k, k < 5 → parseFieldDescriptor (mm_T6 k).2.2.1 = some (mm_y6 k) := by decide +kernel
theorem mm_in7 : ∀ w ∈ u_ws "QualifierGate$Place" mm_T7 3, w ∈ mm_G := by decide +kernel
theorem mm_nm7 : ∀ a, a < 3 → ∀ b, b < 3 → a ≠ b → (mm_T7 a).2.1 ≠ (mm_T7 b).2.1 := by decide +kernel
theorem mm_tk7 : ∀ k, k < 3 → parseFieldDescriptor (mm_T7 k).2.2.1 = some (mm_y7 k) := by decide +kernel
theorem mm_in8 : ∀ w ∈ u_ws "QualifierGate$Method" mm_T8 14, w ∈ mm_G := by decide +kernel
theorem mm_nm8 : ∀ a, a < 14 → ∀ b, b < 14 → a ≠ b → (mm_T8 a).2.1 ≠ (mm_T8 b).2.1 := by decide +kernel
theorem mm_tk8 : ∀ k, k < 14 → parseFieldDescriptor (mm_T8 k).2.2.1 = some (mm_y8 k) := by decide +kernel
theorem mm_in9 : ∀ w ∈ u_ws "QualifierGateModel" mm_T9 61, w ∈ mm_G := by decide +kernel
theorem mm_nm9 : ∀ a, a < 61 → ∀ b, b < 61 → a ≠ b → (mm_T9 a).2.1 ≠ (mm_T9 b).2.1 := by decide +kernel
theorem mm_tk9 : ∀ k, k < 61 → parseFieldDescriptor (mm_T9 k).2.2.1 = some (mm_y9 k) := by decide +kernel
end
section
/-! the small machine's heap as a picture of the great one: cell a lies at B + a -/
def mm_rv (B : Nat) (ra : Nat → Nat) (v : Value) : Value := match v with
  | .ref n => if n = 0 then .null else .ref (B + n)
  | .retAddr k => .ref (ra k)
  | v => v
def mm_ob (B n : Nat) : Option Nat := if n = 0 then none else some (B + n)
theorem mm_rv_ref (B : Nat) (ra : Nat → Nat) (n : Nat) : mm_rv B ra (.ref n) = va_rf (mm_ob B n) := by
  unfold mm_rv mm_ob
  by_cases h : n = 0 <;> simp [h, va_rf]
theorem mm_rv_0 (B : Nat) (ra : Nat → Nat) : mm_rv B ra (.ref 0) = .null := rfl
theorem mm_rv_s {B : Nat} {ra : Nat → Nat} {n : Nat} (h : n ≠ 0) : mm_rv B ra (.ref n) = .ref (B + n) := by
  show (if n = 0 then Value.null else .ref (B + n)) = _
  rw [if_neg h]
def mm_fv (B : Nat) (h : mm_H) (c a : Nat) : List Value := (List.range (mm_fks.getD c []).length).map (fun k => if mm_fk (64 * c + k) = 2 then va_rf (mm_ob B (mm_r h (64 * c + k) a)) else .int (mm_i h (64 * c + k) a))
def mm_ce (B : Nat) (cA : Nat → ClassId) (h : mm_H) (a : Nat) : va_E :=
  if mm_k h a < 20 then .inr (mm_k h a - 1, mm_fv B h (mm_k h a - 1) a)
  else if mm_k h a < 22 then .inl (cA (mm_k h a - 20), mm_n h a, .inl (mm_a h a))
  else .inl (cA (mm_k h a - 20), mm_n h a, .inr (.inr (.inr (.inr (fun j => mm_ob B (mm_q h a j))))))
def mm_ww (B : Nat) (cA : Nat → ClassId) (h : mm_H) : va_W := (List.range (mm_t h)).map (fun i => (B + (i + 1), mm_ce B cA h (i + 1)))
def mm_wf (h : mm_H) : Prop := ∀ a, mm_k h a ≠ 0 → 1 ≤ a ∧ a ≤ mm_t h
theorem mm_ww_len (B : Nat) (cA : Nat → ClassId) (h : mm_H) : (mm_ww B cA h).length = mm_t h := by simp [mm_ww]
theorem mm_ww_at (B : Nat) (cA : Nat → ClassId) (h : mm_H) {a : Nat} (h1 : 1 ≤ a) (h2 : a ≤ mm_t h) : (mm_ww B cA h)[a - 1]? = some (B + a, mm_ce B cA h a) := by
  have e : a - 1 + 1 = a := by omega
  simp [mm_ww, List.getElem?_map, List.getElem?_range (show a - 1 < mm_t h by omega), e]
theorem mm_ww_get {B : Nat} {cA : Nat → ClassId} {h : mm_H} {a : Nat} (hw : mm_wf h) (hk : mm_k h a ≠ 0) : (mm_ww B cA h)[a - 1]? = some (B + a, mm_ce B cA h a) := mm_ww_at B cA h (hw a hk).1 (hw a hk).2
theorem mm_ww_obj {B : Nat} {cA : Nat → ClassId} {h : mm_H} {a c : Nat} (hw : mm_wf h) (hk : mm_k h a = c + 1) (hc : c < 10) : (mm_ww B cA h)[a - 1]? = some (B + a, .inr (c, mm_fv B h c a)) := by
  rw [mm_ww_get hw (by omega)]
  unfold mm_ce
  rw [if_pos (by omega), hk]
  rfl
theorem mm_ww_int {B : Nat} {cA : Nat → ClassId} {h : mm_H} {a t : Nat} (hw : mm_wf h) (hk : mm_k h a = 20 + t) (hc : t < 2) : (mm_ww B cA h)[a - 1]? = some (B + a, .inl (cA t, mm_n h a, .inl (mm_a h a))) := by
  rw [mm_ww_get hw (by omega)]
  unfold mm_ce
  rw [if_neg (by omega), if_pos (by omega), hk, Nat.add_sub_cancel_left]
theorem mm_ww_ref {B : Nat} {cA : Nat → ClassId} {h : mm_H} {a t : Nat} (hw : mm_wf h) (hk : mm_k h a = 20 + t) (hc : 2 ≤ t) : (mm_ww B cA h)[a - 1]? = some (B + a, .inl (cA t, mm_n h a, .inr (.inr (.inr (.inr (fun j => mm_ob B (mm_q h a j))))))) := by
  rw [mm_ww_get hw (by omega)]
  unfold mm_ce
  rw [if_neg (by omega), if_neg (by omega), hk, Nat.add_sub_cancel_left]
theorem mm_ce_eq {B : Nat} {cA : Nat → ClassId} {h h' : mm_H} {b : Nat} (hk : mm_k h' b = mm_k h b) (hn : mm_n h' b = mm_n h b) (ha : mm_a h' b = mm_a h b) (hq : mm_q h' b = mm_q h b) (hi : ∀ f, mm_i h' f b = mm_i h f b) (hr : ∀ f, mm_r h' f b = mm_r h f b) : mm_ce B cA h' b = mm_ce B cA h b := by
  unfold mm_ce mm_fv
  simp only [hk, hn, ha, hq, hi, hr]
theorem mm_ww_set {B : Nat} {cA : Nat → ClassId} {h h' : mm_H} {a : Nat} (h1 : 1 ≤ a) (h2 : a ≤ mm_t h) (ht : mm_t h' = mm_t h) (hc : ∀ b, b ≠ a → mm_ce B cA h' b = mm_ce B cA h b) : mm_ww B cA h' = (mm_ww B cA h).set (a - 1) (B + a, mm_ce B cA h' a) := by
  apply List.ext_getElem?
  intro i
  by_cases hi : i < mm_t h
  · have e1 := mm_ww_at B cA h' (a := i + 1) (by omega) (by omega)
    rw [Nat.add_sub_cancel] at e1
    rw [e1]
    by_cases hia : i = a - 1
    · subst hia
      rw [List.getElem?_set_self (by rw [mm_ww_len]; exact hi), show a - 1 + 1 = a by omega]
    · have e2 := mm_ww_at B cA h (a := i + 1) (by omega) (by omega)
      rw [Nat.add_sub_cancel] at e2
      rw [List.getElem?_set_ne (Ne.symm hia), e2, hc (i + 1) (by omega)]
  · rw [List.getElem?_eq_none (by rw [mm_ww_len]; omega), List.getElem?_eq_none (by rw [List.length_set, mm_ww_len]; omega)]
theorem mm_ww_new (B : Nat) (cA : Nat → ClassId) (h : mm_H) (k n : Nat) : mm_ww B cA (mm_new h k n) = mm_ww B cA h ++ [(B + (mm_t h + 1), mm_ce B cA (mm_new h k n) (mm_t h + 1))] := by
  show (List.range (mm_t h + 1)).map _ = _
  rw [List.range_succ, List.map_append]
  congr 1
  apply List.map_congr_left
  intro i hi
  have hi := List.mem_range.mp hi
  have hne : i + 1 ≠ mm_t h + 1 := by omega
  have e : mm_ce B cA (mm_new h k n) (i + 1) = mm_ce B cA h (i + 1) := by
    refine mm_ce_eq ?_ ?_ ?_ ?_ (fun f => ?_) (fun f => ?_)
    · exact if_neg hne
    · exact if_neg hne
    · exact if_neg hne
    · exact if_neg hne
    · exact if_neg hne
    · exact if_neg hne
  rw [e]
/-- types of arrays with their classes -/
def mm_tys (cA : Nat → ClassId) : List (ClassId × FieldType) := [(cA 0, .int), (cA 1, .boolean), (cA 2, .object "QualifierGate$Place"), (cA 3, .object "QualifierGate$Method"), (cA 4, .object "QualifierGate$Frame"), (cA 5, .object "QualifierGate$Activation")]
/-- words that don't stay by themselves -/
def mm_isB (w : Jvm.Cond) : Bool := match w with
  | .fieldLinkNest .. => true
  | .methodLinkNest .. => true
  | .arrayOver (.object _) => true
  | _ => false
def mm_Bw : List Jvm.Cond := lw_tbl.filter mm_isB
theorem mm_G_1 : (Jvm.Cond.native arraycopyName ∈ mm_G ∧ Jvm.Cond.static arraycopyName ∈ mm_G) ∧ Jvm.Cond.initialized "java/lang/System" ∈ mm_G ∧ Jvm.Cond.initialized "java/lang/Math" ∈ mm_G := by decide +kernel
theorem mm_G_2 : Jvm.Cond.static Lib.Math.max.name ∈ mm_G ∧ Jvm.Cond.static Lib.Math.min.name ∈ mm_G ∧ Jvm.Cond.code Lib.Math.max.name Lib.Math.max.code 2 (some .int) ∈ mm_G ∧ Jvm.Cond.code Lib.Math.min.name Lib.Math.min.code 2 (some .int) ∈ mm_G := by decide +kernel
theorem mm_G_3 : Jvm.Cond.arrayClass .int ∈ mm_G ∧ Jvm.Cond.arrayClass .boolean ∈ mm_G ∧ Jvm.Cond.instanceMethod objectInit ∈ mm_G ∧ Jvm.Cond.code objectInit ⟨#[0xb1]⟩ 1 none ∈ mm_G := by decide +kernel
theorem mm_G_4 : ∀ t, 2 ≤ t → t < 6 → Jvm.Cond.arrayOver (.object (mm_N.getD (mm_ac.getD t 0) "")) ∈ mm_Bw := by
  intro t h1 h2
  have h : (List.range 6).all (fun t => decide (t < 2) || decide (Jvm.Cond.arrayOver (.object (mm_N.getD (mm_ac.getD t 0) "")) ∈ mm_Bw)) = true := by decide +kernel
  have h3 := List.all_eq_true.mp h t (List.mem_range.mpr h2)
  simp only [Bool.or_eq_true, decide_eq_true_eq] at h3
  rcases h3 with h3 | h3
  · omega
  · exact h3
theorem mm_G_of {i : Nat} {w : Jvm.Cond} (h : lw_tbl[i]? = some w) (hg : goodWord w = true) : w ∈ mm_G := List.mem_filter.mpr ⟨List.mem_of_getElem? h, hg⟩
end
section
/-! what holds while a method runs -/
/-- the kind of a type -/
def mm_tyk (t : FieldType) : Nat := match t with
  | .int => 0
  | .boolean => 1
  | .object _ => 2
  | .array _ => 2
  | _ => 3
/-- what is known of a class of the worlds -/
def mm_Ck (c : Nat) (C : String) (T : u_T) (N : Nat) (ty : Nat → FieldType) : Prop :=
  mm_cl[c]? = some (C, T, N) ∧ C = mm_N.getD c "" ∧ N = (mm_fks.getD c []).length ∧ (∀ w ∈ u_ws C T N, w ∈ mm_G) ∧ (∀ k, k < N → parseFieldDescriptor (T k).2.2.1 = some (ty k)) ∧ (∀ a, a < N → ∀ b, b < N → a ≠ b → (T a).2.1 ≠ (T b).2.1) ∧
  ∀ k, k < N → (T k).1 = C ∧ (T k).2.2.2 = (mm_fin.getD c []).getD k true ∧ mm_fdC (64 * c + k) = (C, (T k).2.1, (T k).2.2.1) ∧ mm_tyk (ty k) = mm_fk (64 * c + k)
theorem mm_Ck_all : ∀ c, c < 10 → ∃ (C : String) (T : u_T) (N : Nat) (ty : Nat → FieldType), mm_Ck c C T N ty := by
  intro c hc
  rcases (show c = 0 ∨ c = 1 ∨ c = 2 ∨ c = 3 ∨ c = 4 ∨ c = 5 ∨ c = 6 ∨ c = 7 ∨ c = 8 ∨ c = 9 by omega) with rfl | rfl | rfl | rfl | rfl | rfl | rfl | rfl | rfl | rfl
  · exact ⟨"QualifierGate", mm_T0, 4, mm_y0, rfl, rfl, rfl, mm_in0, mm_tk0, mm_nm0, by decide +kernel⟩
  · exact ⟨"QualifierGate$Stock", mm_T1, 10, mm_y1, rfl, rfl, rfl, mm_in1, mm_tk1, mm_nm1, by decide +kernel⟩
  · exact ⟨"QualifierGate$Look", mm_T2, 7, mm_y2, rfl, rfl, rfl, mm_in2, mm_tk2, mm_nm2, by decide +kernel⟩
  · exact ⟨"QualifierGate$Frame", mm_T3, 5, mm_y3, rfl, rfl, rfl, mm_in3, mm_tk3, mm_nm3, by decide +kernel⟩
  · exact ⟨"QualifierGate$Rules", mm_T4, 1, mm_y4, rfl, rfl, rfl, mm_in4, mm_tk4, mm_nm4, by decide +kernel⟩
  · exact ⟨"QualifierGate$Machine", mm_T5, 15, mm_y5, rfl, rfl, rfl, mm_in5, mm_tk5, mm_nm5, by decide +kernel⟩
  · exact ⟨"QualifierGate$Activation", mm_T6, 5, mm_y6, rfl, rfl, rfl, mm_in6, mm_tk6, mm_nm6, by decide +kernel⟩
  · exact ⟨"QualifierGate$Place", mm_T7, 3, mm_y7, rfl, rfl, rfl, mm_in7, mm_tk7, mm_nm7, by decide +kernel⟩
  · exact ⟨"QualifierGate$Method", mm_T8, 14, mm_y8, rfl, rfl, rfl, mm_in8, mm_tk8, mm_nm8, by decide +kernel⟩
  · exact ⟨"QualifierGateModel", mm_T9, 61, mm_y9, rfl, rfl, rfl, mm_in9, mm_tk9, mm_nm9, by decide +kernel⟩
theorem mm_ty2 {t : FieldType} (h : mm_tyk t = 2) (r : Option Nat) : narrow t (va_rf r) = va_rf r ∧ fits t (va_rf r) = true ∧ defaultValue t = .null := by
  cases t <;> first | (cases h; done) | (cases r <;> exact ⟨rfl, rfl, rfl⟩)
theorem mm_ty0 {t : FieldType} (h : mm_tyk t = 0) (x : Int32) : narrow t (.int x) = .int x ∧ fits t (.int x) = true ∧ defaultValue t = .int 0 := by
  cases t <;> first | (cases h; done) | exact ⟨vp_nar_int x, rfl, rfl⟩
theorem mm_ty1 {t : FieldType} (h : mm_tyk t = 1) {x : Int32} (hx : x = 0 ∨ x = 1) : narrow t (.int x) = .int x ∧ fits t (.int x) = true ∧ defaultValue t = .int 0 := by
  cases t <;> first | (cases h; done) | (rcases hx with rfl | rfl <;> exact ⟨by decide, by decide, rfl⟩)
/-- arrays and statics that are only read, words that don't stay by themselves -/
def mm_E (B : Nat) (ra : Nat → Nat) (ro : mm_Ro) (s : State) : Prop :=
  (∀ k, va_T .int (ra k) (ro k).1 (fun j => .int ((ro k).2 j)) (fun q => B < q) s s.heap) ∧ va_Z "QualifierGate$Op" "POPS" "[I" (.ref (ra 1)) (fun q => B < q) s s.heap ∧ va_Z "QualifierGate$Op" "PUSHES" "[I" (.ref (ra 2)) (fun q => B < q) s s.heap ∧ ∀ w ∈ mm_Bw, va_Nw w s
/-- the method's own: machine, code, words, classes, how much was there when it began -/
def mm_X (p : Program) (s : State) (m : MethodId) (args : Array Value) (meth : Method) (c : Code) (M : mm_M) (B : Nat) (ra : Nat → Nat) (ro : mm_Ro) (D : va_G) (cA : Nat → ClassId) (t0 : Nat) : Prop :=
  p.tables.exec = Jvm.exec ∧ c.code = M.2.1 ∧ c.maxLocals = M.2.2.1 ∧ s.vm.findClass (mm_N.getD M.2.2.2.2.1.1 "") = some m.cls ∧ (∀ w ∈ mm_G, w.before args s = true) ∧ va_K D mm_cl (mm_tys cA) s ∧ mm_E B ra ro s ∧ s.heap.size = B + t0 + 1 ∧ (M.1.name = "<init>" → meth.name = "<init>")
/-- the heap as it is -/
def mm_J (B : Nat) (cA : Nat → ClassId) (D : va_G) (h : mm_H) (s : State) (H : Heap) (locs : List Loc) : Prop :=
  va_P D mm_cl (mm_ww B cA h) H ∧ va_S (fun q => B < q) s.heap H locs ∧ mm_wf h
/-- the locals -/
def mm_L (B : Nat) (ra : Nat → Nat) (nL : Nat) (ls : Array Slot) (L : List Value) : Prop :=
  ls.size = nL ∧ L.length = nL ∧ lv_wf ls ∧ ∀ (i : Nat) (v : Value), L[i]? = some v → v ≠ .null → ls[i]? = some (.val (mm_rv B ra v)) ∧ (mm_rv B ra v).category = 1
theorem mm_D (B : Nat) (cA : Nat → ClassId) (h : mm_H) : va_D (fun q => B < q) (mm_ww B cA h) := by
  have key : ∀ (i : Nat) (q : Nat × va_E), (mm_ww B cA h)[i]? = some q → q.1 = B + (i + 1) := by
    intro i q hq
    have hi : i < mm_t h := by
      have := (List.getElem?_eq_some_iff.mp hq).1
      rwa [mm_ww_len] at this
    have e := mm_ww_at B cA h (a := i + 1) (by omega) (by omega)
    rw [Nat.add_sub_cancel, hq] at e
    rw [Option.some.inj e]
  exact ⟨fun i j x y hi hj hxy => by have := key i x hi; have := key j y hj; omega, fun i x hi => by have := key i x hi; show B < x.1; omega⟩
def mm_ll (B : Nat) (ra : Nat → Nat) (L : List Value) : List (Nat × Value) := (List.range L.length).filterMap (fun i => match L[i]? with
  | some v => if v = .null then none else some (i, mm_rv B ra v)
  | none => none)
theorem mm_ll_mem {B : Nat} {ra : Nat → Nat} {L : List Value} {q : Nat × Value} : q ∈ mm_ll B ra L ↔ ∃ v, L[q.1]? = some v ∧ v ≠ .null ∧ q.2 = mm_rv B ra v := by
  unfold mm_ll
  rw [List.mem_filterMap]
  constructor
  · rintro ⟨i, hi, hq⟩
    cases hL : L[i]? with
    | none => rw [hL] at hq; cases hq
    | some v =>
      rw [hL] at hq
      dsimp only at hq
      by_cases hv : v = .null
      · rw [if_pos hv] at hq; cases hq
      · rw [if_neg hv] at hq
        cases hq
        exact ⟨v, hL, hv, rfl⟩
  · rintro ⟨v, h1, h2, h3⟩
    refine ⟨q.1, List.mem_range.mpr (List.getElem?_eq_some_iff.mp h1).1, ?_⟩
    rw [h1]
    dsimp only
    rw [if_neg h2, ← h3]
theorem mm_L.has {B : Nat} {ra : Nat → Nat} {nL : Nat} {ls : Array Slot} {L : List Value} (h : mm_L B ra nL ls L) : lv_has ls nL (mm_ll B ra L) := by
  refine ⟨h.1, h.2.2.1, fun q hq => ?_⟩
  obtain ⟨v, h1, h2, h3⟩ := mm_ll_mem.mp hq
  rw [h3]
  exact (h.2.2.2 q.1 v h1 h2).1
theorem mm_L.set {B : Nat} {ra : Nat → Nat} {nL : Nat} {ls ls' : Array Slot} {L : List Value} {i : Nat} {v : Value} (h : mm_L B ra nL ls L) (hc : (mm_rv B ra v).category = 1) (hl : lv_has ls' nL ((i, mm_rv B ra v) :: (mm_ll B ra L).filter (fun q => !(q.1 == i) && !(q.1 + 1 == i && q.2.category == 2)))) : mm_L B ra nL ls' (L.set i v) := by
  refine ⟨hl.1, by rw [List.length_set]; exact h.2.1, hl.2.1, fun j w hj hw => ?_⟩
  by_cases hij : i = j
  · subst hij
    have hlt : i < L.length := by
      have := (List.getElem?_eq_some_iff.mp hj).1
      rwa [List.length_set] at this
    rw [List.getElem?_set_self hlt] at hj
    cases hj
    exact ⟨hl.2.2 (i, mm_rv B ra v) List.mem_cons_self, hc⟩
  · rw [List.getElem?_set_ne hij] at hj
    obtain ⟨h1, h2⟩ := h.2.2.2 j w hj hw
    refine ⟨hl.2.2 (j, mm_rv B ra w) (List.mem_cons_of_mem _ (List.mem_filter.mpr ⟨mm_ll_mem.mpr ⟨w, hj, hw, rfl⟩, ?_⟩)), h2⟩
    have e1 : (j == i) = false := by simp; exact fun e => hij e.symm
    simp [e1, h2]
theorem mm_L.at {B : Nat} {ra : Nat → Nat} {nL : Nat} {ls : Array Slot} {L : List Value} {i : Nat} {v : Value} (h : mm_L B ra nL ls L) (hv : L[i]? = some v) (hn : v ≠ .null) : ls[i]? = some (.val (mm_rv B ra v)) := (h.2.2.2 i v hv hn).1
theorem mm_size {p : Program} {l : Launch} {e : Env} {R : Room} {s : State} {m : MethodId} {args : Array Value} {below : List Frame} {meth : Method} {c : Code} {H : Heap} {locs : List Loc} {cells slots : Nat} {Q : State → Prop} {g : JFrame} (k : H.size ≤ s.heap.size + cells → W p l e R s m args below meth c H locs cells slots Q g) : W p l e R s m args below meth c H locs cells slots Q g := fun T hT X => k (by rw [← hT]; exact X.heapSize) T hT X
/-- where a new cell lies -/
theorem mm_fresh {B t : Nat} {cA : Nat → ClassId} {h : mm_H} {D : va_G} {q : Nat} {e : va_E} {H : Heap} (ht : mm_t h = t) (hP : va_P D mm_cl (mm_ww B cA h ++ [(q, e)]) H) (hD : va_D (fun q => B < q) (mm_ww B cA h ++ [(q, e)])) (hs : H.size ≤ B + t + 2) : q = B + (t + 1) := by
  have hq : (mm_ww B cA h ++ [(q, e)])[t]? = some (q, e) := by
    rw [List.getElem?_append_right (by rw [mm_ww_len]; omega), mm_ww_len, ht, Nat.sub_self]; rfl
  have h1 : q < H.size := (hP t _ hq).lt
  have h2 : B < q := hD.2 t _ hq
  rcases Nat.lt_or_ge (B + t) q with h3 | h3
  · omega
  · exfalso
    have e2 := mm_ww_at B cA h (a := q - B) (by omega) (by omega)
    have e3 : (mm_ww B cA h ++ [(q, e)])[q - B - 1]? = some (B + (q - B), mm_ce B cA h (q - B)) := by
      rw [List.getElem?_append_left (by rw [mm_ww_len]; omega)]; exact e2
    have := hD.1 _ _ _ _ e3 hq (show B + (q - B) = q by omega)
    omega
end
section
theorem mm_dec {M : mm_M} {pc len idx : Nat} {i : Instr} (he : mm_ok1 M (pc, len, idx, i) = true) {n : Nat} (hn : mm_ln i = n + 1) : decode M.2.1 pc = .ok (mm_or idx i, n + 1) := by
  simp only [mm_ok1, Bool.and_eq_true, Bool.or_eq_true, decide_eq_true_eq] at he
  obtain ⟨⟨h1, h2⟩, -⟩ := he
  rcases h2 with h2 | h2
  · omega
  · rw [h1, ← h2, hn]
theorem mm_lkd {M : mm_M} {pc len idx : Nat} {i : Instr} (he : mm_ok1 M (pc, len, idx, i) = true) : mm_lk M pc idx i = true := by
  simp only [mm_ok1, Bool.and_eq_true] at he
  exact he.2
theorem mm_tg_ok {pc : Nat} {off : Int} (h : 0 ≤ (pc : Int) + off) : (pc : Int) + off = (mm_tg pc off : Int) := by
  unfold mm_tg
  omega
theorem mm_rv_cat (B : Nat) (ra : Nat → Nat) (x : Nat) : (mm_rv B ra (.ref x)).category = 1 := by
  rw [mm_rv_ref]
  cases mm_ob B x <;> rfl
section SIM
variable {p : Program} {l : Launch} {e : Env} {R : Room} {s : State} {m : MethodId} {args : Array Value} {below : List Frame} {meth : Method} {c : Code} {H : Heap} {locs : List Loc} {cells slots : Nat} {Q : State → Prop} {M : mm_M} {B : Nat} {ra : Nat → Nat} {ro : mm_Ro} {D : va_G} {cA : Nat → ClassId} {t0 : Nat} {pc pc' len idx : Nat} {i : Instr} {L L' S S' : List Value} {h h' : mm_H} {ls : Array Slot}
/-- the instructions that leave the heap alone -/
theorem mm_sim0 (X : mm_X p s m args meth c M B ra ro D cA t0) (he : mm_ok1 M (pc, len, idx, i) = true) (hst : mm_st ro i pc L S h = some (pc', L', S', h)) (hi : match i with | .iload _ | .iload_n _ | .aload _ | .aload_n _ | .istore _ | .istore_n _ | .astore _ | .astore_n _ | .iinc _ _ | .iconst _ | .bipush _ | .sipush _ | .aconst_null | .dup | .dup2 | .pop | .iadd | .isub | .imul | .iand | .ior | .ixor | .ishl | .ishr => True | _ => False) (HL : mm_L B ra M.2.2.1 ls L)
    (kk : ∀ ls', mm_L B ra M.2.2.1 ls' L' → W p l e R s m args below meth c H locs cells slots Q (F0 m pc' ls' (S'.map (mm_rv B ra)))) : W p l e R s m args below meth c H locs cells slots Q (F0 m pc ls (S.map (mm_rv B ra))) := by
  obtain ⟨hx, hb, -⟩ := X
  have hlk := mm_lkd he
  cases i <;> first | exact absurd hi id | skip
  case iload k =>
    have hd : decode M.2.1 pc = .ok (.iload k, 2) := mm_dec he rfl
    unfold mm_st at hst
    dsimp only at hst
    split at hst
    · rename_i x hk
      cases hst
      exact lv_iload hx hb hd (HL.at hk (fun q => by cases q)) (kk ls HL)
    · cases hst
  case iload_n k =>
    have hd : decode M.2.1 pc = .ok (.iload_n k, 1) := mm_dec he rfl
    unfold mm_st at hst
    dsimp only at hst
    split at hst
    · rename_i x hk
      cases hst
      exact lv_iload_n hx hb hd rfl (HL.at hk (fun q => by cases q)) (kk ls HL)
    · cases hst
  case aload k =>
    have hd : decode M.2.1 pc = .ok (.aload k, 2) := mm_dec he rfl
    unfold mm_st at hst
    dsimp only at hst
    split at hst
    · rename_i x hk
      cases hst
      have h1 := HL.at hk (fun q => by cases q)
      have k2 := kk ls HL
      by_cases h0 : x = 0
      · subst h0
        exact lv_aloadN hx hb hd h1 k2
      · rw [List.map_cons, mm_rv_s h0] at k2
        rw [mm_rv_s h0] at h1
        exact lv_aload hx hb hd h1 k2
    · rename_i x hk
      cases hst
      exact lv_aload hx hb hd (HL.at hk (fun q => by cases q)) (kk ls HL)
    · cases hst
  case aload_n k =>
    have hd : decode M.2.1 pc = .ok (.aload_n k, 1) := mm_dec he rfl
    unfold mm_st at hst
    dsimp only at hst
    split at hst
    · rename_i x hk
      cases hst
      have h1 := HL.at hk (fun q => by cases q)
      have k2 := kk ls HL
      by_cases h0 : x = 0
      · subst h0
        exact lv_aload_nN hx hb hd rfl h1 k2
      · rw [List.map_cons, mm_rv_s h0] at k2
        rw [mm_rv_s h0] at h1
        exact lv_aload_n hx hb hd rfl h1 k2
    · rename_i x hk
      cases hst
      exact lv_aload_n hx hb hd rfl (HL.at hk (fun q => by cases q)) (kk ls HL)
    · cases hst
  case istore k =>
    have hd : decode M.2.1 pc = .ok (.istore k, 2) := mm_dec he rfl
    have hn : k < M.2.2.1 := by simpa [mm_lk] using hlk
    unfold mm_st at hst
    dsimp only at hst
    split at hst
    · cases hst
      exact lv_istore hx hb hd HL.has hn rfl (fun ls' hl => kk ls' (HL.set (v := .int _) rfl hl))
    · cases hst
  case istore_n k =>
    have hd : decode M.2.1 pc = .ok (.istore_n k, 1) := mm_dec he rfl
    have hn : k.val < M.2.2.1 := by simpa [mm_lk] using hlk
    unfold mm_st at hst
    dsimp only at hst
    split at hst
    · cases hst
      exact lv_istore_n hx hb hd rfl HL.has hn rfl (fun ls' hl => kk ls' (HL.set (v := .int _) rfl hl))
    · cases hst
  case astore k =>
    have hd : decode M.2.1 pc = .ok (.astore k, 2) := mm_dec he rfl
    have hn : k < M.2.2.1 := by simpa [mm_lk] using hlk
    unfold mm_st at hst
    dsimp only at hst
    split at hst
    · rename_i x S0
      cases hst
      by_cases h0 : x = 0
      · subst h0
        exact lv_astoreN hx hb hd HL.has hn rfl (fun ls' hl => kk ls' (HL.set (v := .ref 0) rfl hl))
      · rw [List.map_cons, mm_rv_s h0]
        exact lv_astore hx hb hd HL.has hn rfl (fun ls' hl => kk ls' (HL.set (v := .ref x) (mm_rv_cat B ra x) (by rw [mm_rv_s h0]; exact hl)))
    · cases hst
  case astore_n k =>
    have hd : decode M.2.1 pc = .ok (.astore_n k, 1) := mm_dec he rfl
    have hn : k.val < M.2.2.1 := by simpa [mm_lk] using hlk
    unfold mm_st at hst
    dsimp only at hst
    split at hst
    · rename_i x S0
      cases hst
      by_cases h0 : x = 0
      · subst h0
        exact lv_astore_nN hx hb hd rfl HL.has hn rfl (fun ls' hl => kk ls' (HL.set (v := .ref 0) rfl hl))
      · rw [List.map_cons, mm_rv_s h0]
        exact lv_astore_n hx hb hd rfl HL.has hn rfl (fun ls' hl => kk ls' (HL.set (v := .ref x) (mm_rv_cat B ra x) (by rw [mm_rv_s h0]; exact hl)))
    · cases hst
  case iinc k n =>
    have hd : decode M.2.1 pc = .ok (.iinc k n, 3) := mm_dec he rfl
    have hn : k < M.2.2.1 := by simpa [mm_lk] using hlk
    unfold mm_st at hst
    dsimp only at hst
    split at hst
    · rename_i x hk
      cases hst
      obtain ⟨j, hj⟩ := List.getElem?_of_mem (mm_ll_mem (B := B) (ra := ra) (q := (k, .int x)).mpr ⟨.int x, hk, (fun q => by cases q), rfl⟩)
      exact lv_iinc hx hb hd HL.has hj rfl hn rfl (fun ls' hl => kk ls' (HL.set (v := .int _) rfl hl))
    · cases hst
  case iconst n =>
    have hd : decode M.2.1 pc = .ok (.iconst n, 1) := mm_dec he rfl
    cases hst
    exact lv_iconst hx hb hd rfl (kk ls HL)
  case bipush n =>
    have hd : decode M.2.1 pc = .ok (.bipush n, 2) := mm_dec he rfl
    cases hst
    exact lv_bipush hx hb hd rfl (kk ls HL)
  case sipush n =>
    have hd : decode M.2.1 pc = .ok (.sipush n, 3) := mm_dec he rfl
    cases hst
    exact lv_sipush hx hb hd rfl (kk ls HL)
  case aconst_null =>
    have hd : decode M.2.1 pc = .ok (.aconst_null, 1) := mm_dec he rfl
    cases hst
    exact lv_null hx hb hd (kk ls HL)
  case dup =>
    have hd : decode M.2.1 pc = .ok (.dup, 1) := mm_dec he rfl
    unfold mm_st at hst
    dsimp only at hst
    split at hst
    · cases hst
      exact lv_dup hx hb hd rfl (kk ls HL)
    · cases hst
      exact lv_dup hx hb hd (mm_rv_cat B ra _) (kk ls HL)
    · cases hst
  case dup2 =>
    have hd : decode M.2.1 pc = .ok (.dup2, 1) := mm_dec he rfl
    unfold mm_st at hst
    dsimp only at hst
    split at hst
    · cases hst
      exact lv_dup2_11 hx hb hd rfl (mm_rv_cat B ra _) (kk ls HL)
    · cases hst
  case pop =>
    have hd : decode M.2.1 pc = .ok (.pop, 1) := mm_dec he rfl
    unfold mm_st at hst
    dsimp only at hst
    split at hst
    · cases hst
      exact lv_pop (va := .int _) hx hb hd rfl (kk ls HL)
    · cases hst
      exact lv_pop hx hb hd (mm_rv_cat B ra _) (kk ls HL)
    · cases hst
  case iadd =>
    have hd : decode M.2.1 pc = .ok (.iadd, 1) := mm_dec he rfl
    unfold mm_st at hst
    dsimp only at hst
    split at hst
    · cases hst
      exact lv_iadd hx hb hd (kk ls HL)
    · cases hst
  case isub =>
    have hd : decode M.2.1 pc = .ok (.isub, 1) := mm_dec he rfl
    unfold mm_st at hst
    dsimp only at hst
    split at hst
    · cases hst
      exact lv_isub hx hb hd (kk ls HL)
    · cases hst
  case imul =>
    have hd : decode M.2.1 pc = .ok (.imul, 1) := mm_dec he rfl
    unfold mm_st at hst
    dsimp only at hst
    split at hst
    · cases hst
      exact lv_imul hx hb hd (kk ls HL)
    · cases hst
  case iand =>
    have hd : decode M.2.1 pc = .ok (.iand, 1) := mm_dec he rfl
    unfold mm_st at hst
    dsimp only at hst
    split at hst
    · cases hst
      exact lv_iand hx hb hd (kk ls HL)
    · cases hst
  case ior =>
    have hd : decode M.2.1 pc = .ok (.ior, 1) := mm_dec he rfl
    unfold mm_st at hst
    dsimp only at hst
    split at hst
    · cases hst
      exact lv_ior hx hb hd (kk ls HL)
    · cases hst
  case ixor =>
    have hd : decode M.2.1 pc = .ok (.ixor, 1) := mm_dec he rfl
    unfold mm_st at hst
    dsimp only at hst
    split at hst
    · cases hst
      exact lv_ixor hx hb hd (kk ls HL)
    · cases hst
  case ishl =>
    have hd : decode M.2.1 pc = .ok (.ishl, 1) := mm_dec he rfl
    unfold mm_st at hst
    dsimp only at hst
    split at hst
    · cases hst
      exact lv_ishl hx hb hd (kk ls HL)
    · cases hst
  case ishr =>
    have hd : decode M.2.1 pc = .ok (.ishr, 1) := mm_dec he rfl
    unfold mm_st at hst
    dsimp only at hst
    split at hst
    · cases hst
      exact lv_ishr hx hb hd (kk ls HL)
    · cases hst
end SIM
end
section
def mm_isj (i : Instr) : Bool := match i with
  | .goto _ | .ifCond _ _ | .if_icmp _ _ | .ifnull _ | .ifnonnull _ | .tableswitch _ _ _ _ | .lookupswitch _ _ => true
  | _ => false
section SIM
variable {p : Program} {l : Launch} {e : Env} {R : Room} {s : State} {m : MethodId} {args : Array Value} {below : List Frame} {meth : Method} {c : Code} {H : Heap} {locs : List Loc} {cells slots : Nat} {Q : State → Prop} {M : mm_M} {B : Nat} {ra : Nat → Nat} {ro : mm_Ro} {D : va_G} {cA : Nat → ClassId} {t0 : Nat} {pc pc' len idx : Nat} {i : Instr} {L L' S S' : List Value} {h h' : mm_H} {ls : Array Slot}
/-- the jumps -/
theorem mm_simj (X : mm_X p s m args meth c M B ra ro D cA t0) (he : mm_ok1 M (pc, len, idx, i) = true) (hst : mm_st ro i pc L S h = some (pc', L', S', h)) (hi : mm_isj i = true) (HL : mm_L B ra M.2.2.1 ls L)
    (kk : ∀ ls', mm_L B ra M.2.2.1 ls' L' → W p l e R s m args below meth c H locs cells slots Q (F0 m pc' ls' (S'.map (mm_rv B ra)))) : W p l e R s m args below meth c H locs cells slots Q (F0 m pc ls (S.map (mm_rv B ra))) := by
  obtain ⟨hx, hb, -⟩ := X
  have hlk := mm_lkd he
  cases i <;> first | (cases hi; done) | skip
  case goto off =>
    have hd : decode M.2.1 pc = .ok (.goto off, 3) := mm_dec he rfl
    have ho : 0 ≤ (pc : Int) + off := by simpa [mm_lk] using hlk
    cases hst
    exact lv_goto hx hb hd (mm_tg_ok ho) (kk ls HL)
  case ifCond cd off =>
    have hd : decode M.2.1 pc = .ok (.ifCond cd off, 3) := mm_dec he rfl
    have ho : 0 ≤ (pc : Int) + off := by simpa [mm_lk] using hlk
    unfold mm_st at hst
    dsimp only at hst
    split at hst
    · rename_i x S0
      cases hst
      have k2 := kk ls HL
      cases cd
      · exact lv_if_eq hx hb hd (mm_tg_ok ho) (fun q => by rw [if_pos (show mm_cc .eq x 0 = true from decide_eq_true q)] at k2; exact k2) (fun q => by rw [if_neg (show ¬ mm_cc .eq x 0 = true from fun z => q (of_decide_eq_true z))] at k2; exact k2)
      · exact lv_if_ne hx hb hd (mm_tg_ok ho) (fun q => by rw [if_pos (show mm_cc .ne x 0 = true from decide_eq_true q)] at k2; exact k2) (fun q => by rw [if_neg (show ¬ mm_cc .ne x 0 = true from fun z => of_decide_eq_true z q)] at k2; exact k2)
      · exact lv_if_lt hx hb hd (mm_tg_ok ho) (fun q => by rw [if_pos (show mm_cc .lt x 0 = true from decide_eq_true q)] at k2; exact k2) (fun q => by rw [if_neg (show ¬ mm_cc .lt x 0 = true from fun z => q (of_decide_eq_true z))] at k2; exact k2)
      · exact lv_if_ge hx hb hd (mm_tg_ok ho) (fun q => by rw [if_pos (show mm_cc .ge x 0 = true from decide_eq_true q)] at k2; exact k2) (fun q => by rw [if_neg (show ¬ mm_cc .ge x 0 = true from fun z => q (of_decide_eq_true z))] at k2; exact k2)
      · exact lv_if_gt hx hb hd (mm_tg_ok ho) (fun q => by rw [if_pos (show mm_cc .gt x 0 = true from decide_eq_true q)] at k2; exact k2) (fun q => by rw [if_neg (show ¬ mm_cc .gt x 0 = true from fun z => q (of_decide_eq_true z))] at k2; exact k2)
      · exact lv_if_le hx hb hd (mm_tg_ok ho) (fun q => by rw [if_pos (show mm_cc .le x 0 = true from decide_eq_true q)] at k2; exact k2) (fun q => by rw [if_neg (show ¬ mm_cc .le x 0 = true from fun z => q (of_decide_eq_true z))] at k2; exact k2)
    · cases hst
  case if_icmp cd off =>
    have hd : decode M.2.1 pc = .ok (.if_icmp cd off, 3) := mm_dec he rfl
    have ho : 0 ≤ (pc : Int) + off := by simpa [mm_lk] using hlk
    unfold mm_st at hst
    dsimp only at hst
    split at hst
    · rename_i y x S0
      cases hst
      have k2 := kk ls HL
      cases cd
      · exact lv_icmp_eq hx hb hd (mm_tg_ok ho) (fun q => by rw [if_pos (show mm_cc .eq x y = true from decide_eq_true q)] at k2; exact k2) (fun q => by rw [if_neg (show ¬ mm_cc .eq x y = true from fun z => q (of_decide_eq_true z))] at k2; exact k2)
      · exact lv_icmp_ne hx hb hd (mm_tg_ok ho) (fun q => by rw [if_pos (show mm_cc .ne x y = true from decide_eq_true q)] at k2; exact k2) (fun q => by rw [if_neg (show ¬ mm_cc .ne x y = true from fun z => of_decide_eq_true z q)] at k2; exact k2)
      · exact lv_icmp_lt hx hb hd (mm_tg_ok ho) (fun q => by rw [if_pos (show mm_cc .lt x y = true from decide_eq_true q)] at k2; exact k2) (fun q => by rw [if_neg (show ¬ mm_cc .lt x y = true from fun z => q (of_decide_eq_true z))] at k2; exact k2)
      · exact lv_icmp_ge hx hb hd (mm_tg_ok ho) (fun q => by rw [if_pos (show mm_cc .ge x y = true from decide_eq_true q)] at k2; exact k2) (fun q => by rw [if_neg (show ¬ mm_cc .ge x y = true from fun z => q (of_decide_eq_true z))] at k2; exact k2)
      · exact lv_icmp_gt hx hb hd (mm_tg_ok ho) (fun q => by rw [if_pos (show mm_cc .gt x y = true from decide_eq_true q)] at k2; exact k2) (fun q => by rw [if_neg (show ¬ mm_cc .gt x y = true from fun z => q (of_decide_eq_true z))] at k2; exact k2)
      · exact lv_icmp_le hx hb hd (mm_tg_ok ho) (fun q => by rw [if_pos (show mm_cc .le x y = true from decide_eq_true q)] at k2; exact k2) (fun q => by rw [if_neg (show ¬ mm_cc .le x y = true from fun z => q (of_decide_eq_true z))] at k2; exact k2)
    · cases hst
  case ifnull off =>
    have hd : decode M.2.1 pc = .ok (.ifnull off, 3) := mm_dec he rfl
    have ho : 0 ≤ (pc : Int) + off := by simpa [mm_lk] using hlk
    unfold mm_st at hst
    dsimp only at hst
    split at hst
    · rename_i x S0
      cases hst
      have k2 := kk ls HL
      by_cases h0 : x = 0
      · rw [if_pos h0] at k2
        subst h0
        exact lv_ifnullN hx hb hd (mm_tg_ok ho) k2
      · rw [if_neg h0] at k2
        rw [List.map_cons, mm_rv_s h0]
        exact lv_ifnull hx hb hd k2
    · cases hst
  case ifnonnull off =>
    have hd : decode M.2.1 pc = .ok (.ifnonnull off, 3) := mm_dec he rfl
    have ho : 0 ≤ (pc : Int) + off := by simpa [mm_lk] using hlk
    unfold mm_st at hst
    dsimp only at hst
    split at hst
    · rename_i x S0
      cases hst
      have k2 := kk ls HL
      by_cases h0 : x = 0
      · rw [if_pos h0] at k2
        subst h0
        exact lv_ifnonnullN hx hb hd k2
      · rw [if_neg h0] at k2
        rw [List.map_cons, mm_rv_s h0]
        exact lv_ifnonnull hx hb hd (mm_tg_ok ho) k2
    · cases hst
  case tableswitch d lo hj offs =>
    have hd : decode M.2.1 pc = .ok (.tableswitch d lo hj offs, len) := by
      simp only [mm_ok1, Bool.and_eq_true, decide_eq_true_eq] at he
      exact he.1.1
    simp only [mm_lk, Bool.and_eq_true, decide_eq_true_eq, List.all_eq_true] at hlk
    unfold mm_st at hst
    dsimp only at hst
    split at hst
    · rename_i x S0
      split at hst
      · rename_i ho
        cases hst
        exact lv_tableOut hx hb hd ho (mm_tg_ok hlk.1) (kk ls HL)
      · rename_i ho
        split at hst
        · rename_i off hoff
          cases hst
          have hm : off ∈ offs.toList := by
            rw [← Array.getElem?_toList] at hoff
            exact List.mem_of_getElem? hoff
          exact lv_tableIn hx hb hd (fun q => ho (Or.inl q)) (fun q => ho (Or.inr q)) hoff (mm_tg_ok (hlk.2 off hm)) (kk ls HL)
        · cases hst
    · cases hst
  case lookupswitch d ps =>
    have hd : decode M.2.1 pc = .ok (.lookupswitch d ps, len) := by
      simp only [mm_ok1, Bool.and_eq_true, decide_eq_true_eq] at he
      exact he.1.1
    simp only [mm_lk, Bool.and_eq_true, decide_eq_true_eq, List.all_eq_true] at hlk
    unfold mm_st at hst
    dsimp only at hst
    split at hst
    · rename_i x S0
      cases hst
      have ho : ∀ (qs : List (Int × Int)) (v : Int), (∀ o ∈ qs, 0 ≤ (pc : Int) + o.2) → 0 ≤ (pc : Int) + Op.lookupswitch.offset qs d v := by
        intro qs v
        induction qs with
        | nil => intro _; exact hlk.1.1
        | cons q qs ih =>
          intro hq
          obtain ⟨a, o⟩ := q
          unfold Op.lookupswitch.offset
          split
          · exact hq (a, o) List.mem_cons_self
          · exact ih (fun o' h' => hq o' (List.mem_cons_of_mem _ h'))
      exact lv_lookup hx hb hd (List.all_eq_true.mpr (fun q hq => by obtain ⟨a, b⟩ := q; exact decide_eq_true (hlk.2 (a, b) hq))) rfl (mm_tg_ok (ho ps.toList x.toInt (fun o h' => hlk.1.2 o h'))) (kk ls HL)
    · cases hst
end SIM
end
section
theorem mm_has3_of {l : List (Nat × Nat × Nat × Nat)} {a b d : Nat} (h : mm_has3 l a b d = true) : ∃ w, (a, b, d, w) ∈ l := by
  unfold mm_has3 at h
  obtain ⟨t, h1, h2⟩ := List.any_eq_true.mp h
  simp only [Bool.and_eq_true, beq_iff_eq] at h2
  obtain ⟨⟨e1, e2⟩, e3⟩ := h2
  obtain ⟨t1, t2, t3, t4⟩ := t
  subst e1; subst e2; subst e3
  exact ⟨t4, h1⟩
theorem mm_hasn_of {l : List (Nat × Nat × Nat)} {a b d : Nat} (h : mm_hasn l a b d = true) : (a, b, d) ∈ l := by
  unfold mm_hasn at h
  obtain ⟨t, h1, h2⟩ := List.any_eq_true.mp h
  simp only [Bool.and_eq_true, beq_iff_eq] at h2
  obtain ⟨⟨e1, e2⟩, e3⟩ := h2
  obtain ⟨t1, t2, t3⟩ := t
  subst e1; subst e2; subst e3
  exact h1
theorem mm_fl_w {o idx f : Nat} (h : mm_has3 mm_fl o idx f = true) : Jvm.Cond.fieldLink (mm_N.getD o "") idx (mm_fdC f).1 (mm_fdC f).2.1 (mm_fdC f).2.2 ∈ mm_G := by
  obtain ⟨w, hw⟩ := mm_has3_of h
  have := List.all_eq_true.mp mm_fl_ok _ hw
  exact mm_G_of (of_decide_eq_true this) rfl
theorem mm_ml_w {o idx z : Nat} (h : mm_has3 mm_ml o idx z = true) : ∃ y, mm_nme z = some y ∧ Jvm.Cond.methodLink (mm_N.getD o "") idx y ∈ mm_G := by
  obtain ⟨w, hw⟩ := mm_has3_of h
  have h1 := List.all_eq_true.mp mm_ml_ok _ hw
  simp only [Bool.and_eq_true, decide_eq_true_eq] at h1
  obtain ⟨y, hy⟩ := Option.isSome_iff_exists.mp h1.2
  have h2 := h1.1
  rw [hy] at h2
  exact ⟨y, hy, mm_G_of h2 rfl⟩
theorem mm_fv_get {B : Nat} {h : mm_H} {c a k : Nat} (hk : k < (mm_fks.getD c []).length) : (mm_fv B h c a)[k]? = some (if mm_fk (64 * c + k) = 2 then va_rf (mm_ob B (mm_r h (64 * c + k) a)) else .int (mm_i h (64 * c + k) a)) := by
  unfold mm_fv
  rw [List.getElem?_map, List.getElem?_range hk]
  rfl
theorem mm_fv_len (B : Nat) (h : mm_H) (c a : Nat) : (mm_fv B h c a).length = (mm_fks.getD c []).length := by simp [mm_fv]
theorem mm_fv_set {B : Nat} {h h' : mm_H} {c a k : Nat} {v : Value} (hk : k < (mm_fks.getD c []).length) (hv : (mm_fv B h' c a)[k]? = some v) (ho : ∀ j, j ≠ k → mm_i h' (64 * c + j) a = mm_i h (64 * c + j) a ∧ mm_r h' (64 * c + j) a = mm_r h (64 * c + j) a) : mm_fv B h' c a = (mm_fv B h c a).set k v := by
  apply List.ext_getElem?
  intro j
  by_cases hj : j < (mm_fks.getD c []).length
  · by_cases hjk : j = k
    · subst hjk
      rw [List.getElem?_set_self (by rw [mm_fv_len]; exact hj), hv]
    · rw [List.getElem?_set_ne (Ne.symm hjk), mm_fv_get hj, mm_fv_get hj, (ho j hjk).1, (ho j hjk).2]
  · rw [List.getElem?_eq_none (by rw [mm_fv_len]; omega), List.getElem?_eq_none (by rw [List.length_set, mm_fv_len]; omega)]
theorem mm_ce_obj {B : Nat} {cA : Nat → ClassId} {h : mm_H} {a c : Nat} (hk : mm_k h a = c + 1) (hc : c < 10) : mm_ce B cA h a = .inr (c, mm_fv B h c a) := by
  unfold mm_ce
  rw [if_pos (by omega), hk]
  rfl
theorem mm_u_ne {α : Type} {g : Nat → Nat → α} {x y a b : Nat} {v : α} (h : a ≠ x ∨ b ≠ y) : mm_u g x y v a b = g a b := by
  unfold mm_u
  rw [if_neg (fun q => h.elim (fun z => z q.1) (fun z => z q.2))]
theorem mm_u_eq {α : Type} {g : Nat → Nat → α} {x y : Nat} {v : α} : mm_u g x y v x y = v := by
  unfold mm_u
  rw [if_pos ⟨rfl, rfl⟩]
theorem mm_ww_si {B : Nat} {cA : Nat → ClassId} {h : mm_H} {a c k f : Nat} {x : Int32} (hw : mm_wf h) (hf : f = 64 * c + k) (hk : mm_k h a = c + 1) (hc : c < 10) (hn : k < (mm_fks.getD c []).length) (h2 : mm_fk f ≠ 2) : mm_ww B cA (mm_si h f a x) = (mm_ww B cA h).set (a - 1) (B + a, .inr (c, (mm_fv B h c a).set k (.int x))) := by
  have hr := hw a (by omega)
  rw [mm_ww_set (h := h) (h' := mm_si h f a x) hr.1 hr.2 rfl (fun b hb => mm_ce_eq rfl rfl rfl rfl (fun g => mm_u_ne (Or.inr hb)) (fun g => rfl)), mm_ce_obj (h := mm_si h f a x) hk hc]
  subst hf
  have e : mm_i (mm_si h (64 * c + k) a x) (64 * c + k) a = x := mm_u_eq
  have e2 : mm_fv B (mm_si h (64 * c + k) a x) c a = (mm_fv B h c a).set k (.int x) := mm_fv_set (h := h) hn (by rw [mm_fv_get hn, if_neg h2, e]) (fun j hj => ⟨mm_u_ne (Or.inl (by omega)), rfl⟩)
  rw [e2]
theorem mm_ww_sr {B : Nat} {cA : Nat → ClassId} {h : mm_H} {a c k f : Nat} {x : Nat} (hw : mm_wf h) (hf : f = 64 * c + k) (hk : mm_k h a = c + 1) (hc : c < 10) (hn : k < (mm_fks.getD c []).length) (h2 : mm_fk f = 2) : mm_ww B cA (mm_sr h f a x) = (mm_ww B cA h).set (a - 1) (B + a, .inr (c, (mm_fv B h c a).set k (va_rf (mm_ob B x)))) := by
  have hr := hw a (by omega)
  rw [mm_ww_set (h := h) (h' := mm_sr h f a x) hr.1 hr.2 rfl (fun b hb => mm_ce_eq rfl rfl rfl rfl (fun g => rfl) (fun g => mm_u_ne (Or.inr hb))), mm_ce_obj (h := mm_sr h f a x) hk hc]
  subst hf
  have e : mm_r (mm_sr h (64 * c + k) a x) (64 * c + k) a = x := mm_u_eq
  have e2 : mm_fv B (mm_sr h (64 * c + k) a x) c a = (mm_fv B h c a).set k (va_rf (mm_ob B x)) := mm_fv_set (h := h) hn (by rw [mm_fv_get hn, if_pos h2, e]) (fun j hj => ⟨rfl, mm_u_ne (Or.inl (by omega))⟩)
  rw [e2]
theorem mm_pos {h : mm_H} {a : Nat} (hw : mm_wf h) (hk : mm_k h a ≠ 0) : a ≠ 0 := by
  have := (hw a hk).1
  omega
theorem mm_in_of {x : Int32} {n : Nat} (h : mm_in x n) : vp_in x n := vp_in_iff.mpr h
section SIM
variable {p : Program} {l : Launch} {e : Env} {R : Room} {s : State} {m : MethodId} {args : Array Value} {below : List Frame} {meth : Method} {c : Code} {H : Heap} {locs : List Loc} {cells slots : Nat} {Q : State → Prop} {M : mm_M} {B : Nat} {ra : Nat → Nat} {ro : mm_Ro} {D : va_G} {cA : Nat → ClassId} {t0 : Nat} {pc pc' len idx : Nat} {i : Instr} {L L' S S' : List Value} {h h' : mm_H} {ls : Array Slot}
theorem mm_simg {f : Nat} (X : mm_X p s m args meth c M B ra ro D cA t0) (he : mm_ok1 M (pc, len, idx, .getfield f) = true) (hst : mm_st ro (.getfield f) pc L S h = some (pc', L', S', h')) (J : mm_J B cA D h s H locs)
    (kk : L' = L → h' = h → W p l e R s m args below meth c H locs cells slots Q (F0 m pc' ls (S'.map (mm_rv B ra)))) : W p l e R s m args below meth c H locs cells slots Q (F0 m pc ls (S.map (mm_rv B ra))) := by
  obtain ⟨hx, hb, hml, hown, hts, hK, hE, hsz, hnm⟩ := X
  obtain ⟨hP, hS, hw⟩ := J
  have hlk := mm_lkd he
  have hd : decode M.2.1 pc = .ok (.getfield idx, 3) := mm_dec he rfl
  simp only [mm_lk, Bool.and_eq_true, decide_eq_true_eq] at hlk
  obtain ⟨⟨hl, hc⟩, hn⟩ := hlk
  unfold mm_st at hst
  dsimp only at hst
  split at hst
  · rename_i a S0
    split at hst
    · rename_i hk
      cases hst
      have k2 := kk rfl rfl
      have ha : a ≠ 0 := mm_pos hw (by omega)
      obtain ⟨C, T, N, ty, c1, c2, c3, c4, c5, c6, c7⟩ := mm_Ck_all (f / 64) hc
      have hf : 64 * (f / 64) + f % 64 = f := Nat.div_add_mod f 64
      obtain ⟨d1, d2, d3, d4⟩ := c7 (f % 64) (by rw [c3]; exact hn)
      rw [hf] at d3 d4
      have hw1 := mm_fl_w hl
      rw [d3] at hw1
      rw [List.map_cons, mm_rv_s ha]
      have hv : (mm_fv B h (f / 64) a)[f % 64]? = some (mm_rv B ra (mm_gv h f a)) := by
        rw [mm_fv_get hn, hf]
        unfold mm_gv
        by_cases h2 : mm_fk f = 2
        · rw [if_pos h2, if_pos h2, mm_rv_ref]
        · rw [if_neg h2, if_neg h2]; rfl
      exact va_get (D := D) (ci := f / 64) (C := C) (T := T) (N := N) (ref := C) hx hb hts c4 hown hK hP (a - 1) (mm_ww_obj hw hk hc) c1 (f % 64) (by rw [c3]; exact hn) (hts _ hw1) (fun x h9 => by rw [d1] at h9; exact h9) hv hd k2
    · cases hst
  · cases hst
theorem mm_simp {f : Nat} (X : mm_X p s m args meth c M B ra ro D cA t0) (he : mm_ok1 M (pc, len, idx, .putfield f) = true) (hst : mm_st ro (.putfield f) pc L S h = some (pc', L', S', h')) (J : mm_J B cA D h s H locs)
    (kk : ∀ H' locs', L' = L → mm_J B cA D h' s H' locs' → W p l e R s m args below meth c H' locs' cells slots Q (F0 m pc' ls (S'.map (mm_rv B ra)))) : W p l e R s m args below meth c H locs cells slots Q (F0 m pc ls (S.map (mm_rv B ra))) := by
  obtain ⟨hx, hb, hml, hown, hts, hK, hE, hsz, hnm⟩ := X
  obtain ⟨hP, hS, hw⟩ := J
  have hlk := mm_lkd he
  have hd : decode M.2.1 pc = .ok (.putfield idx, 3) := mm_dec he rfl
  simp only [mm_lk, Bool.and_eq_true, decide_eq_true_eq, Bool.or_eq_true, Bool.not_eq_true', beq_iff_eq] at hlk
  obtain ⟨⟨⟨hl, hc⟩, hn⟩, hfin⟩ := hlk
  obtain ⟨C, T, N, ty, c1, c2, c3, c4, c5, c6, c7⟩ := mm_Ck_all (f / 64) hc
  have hf : 64 * (f / 64) + f % 64 = f := Nat.div_add_mod f 64
  have hN : f % 64 < N := by rw [c3]; exact hn
  obtain ⟨d1, d2, d3, d4⟩ := c7 (f % 64) hN
  rw [hf] at d3 d4
  have hw1 := mm_fl_w hl
  rw [d3] at hw1
  have key : ∀ (a : Nat) (v : Value) (h1 : mm_H) (S0 : List Value), mm_k h a = f / 64 + 1 → narrow (ty (f % 64)) v = v → fits (ty (f % 64)) v = true → mm_ww B cA h1 = (mm_ww B cA h).set (a - 1) (B + a, .inr (f / 64, (mm_fv B h (f / 64) a).set (f % 64) v)) → mm_wf h1 → (∀ H' locs', mm_J B cA D h1 s H' locs' → W p l e R s m args below meth c H' locs' cells slots Q (F0 m (pc + 3) ls S0)) → W p l e R s m args below meth c H locs cells slots Q (F0 m pc ls (v :: .ref (B + a) :: S0)) := by
    intro a v h1 S0 hk n1 n2 hww hw1' k2
    rcases hfin with hfin | hfin
    · refine va_put (D := D) (ci := f / 64) (C := C) (T := T) (N := N) (ref := C) (ty := ty (f % 64)) hx hb hts c4 ty c5 c6 hown hK hP (mm_D B cA h) hS (a - 1) (mm_ww_obj hw hk hc) c1 (f % 64) hN (hts _ hw1) (fun x h9 => by rw [d1] at h9; exact h9) (by rw [d2]; exact hfin) (c5 _ hN) n1 n2 (by rw [mm_fv_len]; exact hn) hd (fun H1 locs1 g1 g2 g3 => k2 H1 locs1 ⟨?_, g3, hw1'⟩)
      rw [hww]; exact g1
    · by_cases hft : (T (f % 64)).2.2.2 = true
      · have hC : (T (f % 64)).1 = mm_N.getD M.2.2.2.2.1.1 "" := by rw [d1, c2, hfin.2]
        refine va_putF (D := D) (ci := f / 64) (C := C) (T := T) (N := N) (ref := C) (ty := ty (f % 64)) hx hb hts c4 ty c5 c6 hown hK hP (mm_D B cA h) hS (a - 1) (mm_ww_obj hw hk hc) c1 (f % 64) hN (hts _ hw1) (fun x h9 => by rw [d1] at h9; exact h9) hft (hnm hfin.1) hC (c5 _ hN) n1 n2 (by rw [mm_fv_len]; exact hn) hd (fun H1 locs1 g1 g2 g3 => k2 H1 locs1 ⟨?_, g3, hw1'⟩)
        rw [hww]; exact g1
      · refine va_put (D := D) (ci := f / 64) (C := C) (T := T) (N := N) (ref := C) (ty := ty (f % 64)) hx hb hts c4 ty c5 c6 hown hK hP (mm_D B cA h) hS (a - 1) (mm_ww_obj hw hk hc) c1 (f % 64) hN (hts _ hw1) (fun x h9 => by rw [d1] at h9; exact h9) (Bool.eq_false_iff.mpr hft) (c5 _ hN) n1 n2 (by rw [mm_fv_len]; exact hn) hd (fun H1 locs1 g1 g2 g3 => k2 H1 locs1 ⟨?_, g3, hw1'⟩)
        rw [hww]; exact g1
  unfold mm_st at hst
  dsimp only at hst
  split at hst
  · rename_i x a S0
    split at hst
    · rename_i hk
      cases hst
      have ha : a ≠ 0 := mm_pos hw (by omega)
      have h2 : mm_fk f ≠ 2 := by omega
      rw [List.map_cons, List.map_cons, mm_rv_s ha]
      have hnf : narrow (ty (f % 64)) (.int x) = .int x ∧ fits (ty (f % 64)) (.int x) = true := by
        rcases hk.2 with q | q
        · have := mm_ty0 (d4.trans q) x; exact ⟨this.1, this.2.1⟩
        · have := mm_ty1 (d4.trans q.1) q.2; exact ⟨this.1, this.2.1⟩
      exact key a (.int x) _ _ hk.1 hnf.1 hnf.2 (mm_ww_si hw hf.symm hk.1 hc hn h2) hw (fun H' locs' j => kk H' locs' rfl j)
    · cases hst
  · rename_i x a S0
    split at hst
    · rename_i hk
      cases hst
      have ha : a ≠ 0 := mm_pos hw (by omega)
      rw [List.map_cons, List.map_cons, mm_rv_s ha, mm_rv_ref]
      have hnf := mm_ty2 (d4.trans hk.2) (mm_ob B x)
      exact key a _ _ _ hk.1 hnf.1 hnf.2.1 (mm_ww_sr hw hf.symm hk.1 hc hn hk.2) hw (fun H' locs' j => kk H' locs' rfl j)
    · cases hst
  · cases hst
end SIM
end
section
theorem mm_ce_int {B : Nat} {cA : Nat → ClassId} {h : mm_H} {a t : Nat} (hk : mm_k h a = 20 + t) (hc : t < 2) : mm_ce B cA h a = .inl (cA t, mm_n h a, .inl (mm_a h a)) := by
  unfold mm_ce
  rw [if_neg (by omega), if_pos (by omega), hk, Nat.add_sub_cancel_left]
theorem mm_ce_ref {B : Nat} {cA : Nat → ClassId} {h : mm_H} {a t : Nat} (hk : mm_k h a = 20 + t) (hc : 2 ≤ t) : mm_ce B cA h a = .inl (cA t, mm_n h a, .inr (.inr (.inr (.inr (fun j => mm_ob B (mm_q h a j)))))) := by
  unfold mm_ce
  rw [if_neg (by omega), if_neg (by omega), hk, Nat.add_sub_cancel_left]
theorem mm_ww_sa {B : Nat} {cA : Nat → ClassId} {h : mm_H} {a j t : Nat} {x : Int32} (hw : mm_wf h) (hk : mm_k h a = 20 + t) (hc : t < 2) : mm_ww B cA (mm_sa h a j x) = (mm_ww B cA h).set (a - 1) (B + a, .inl (cA t, mm_n h a, .inl (upd (mm_a h a) j x))) := by
  have hr := hw a (by omega)
  rw [mm_ww_set (h := h) (h' := mm_sa h a j x) hr.1 hr.2 rfl (fun b hb => mm_ce_eq rfl rfl (by funext q; exact mm_u_ne (Or.inl hb)) rfl (fun g => rfl) (fun g => rfl)), mm_ce_int (h := mm_sa h a j x) hk hc]
  have e : mm_a (mm_sa h a j x) a = upd (mm_a h a) j x := by
    funext q
    show mm_u (mm_a h) a j x a q = upd (mm_a h a) j x q
    unfold mm_u upd
    by_cases hq : q = j
    · rw [if_pos ⟨rfl, hq⟩, if_pos hq]
    · rw [if_neg (fun z => hq z.2), if_neg hq]
  rw [e]
  rfl
theorem mm_ww_sc {B : Nat} {cA : Nat → ClassId} {h : mm_H} {a b sp dp n t : Nat} (hw : mm_wf h) (hk : mm_k h b = 20 + t) (hc : t < 2) : mm_ww B cA (mm_sc h a b sp dp n) = (mm_ww B cA h).set (b - 1) (B + b, .inl (cA t, mm_n h b, .inl (va_cpy (mm_a h a) (mm_a h b) sp dp n))) := by
  have hr := hw b (by omega)
  rw [mm_ww_set (h := h) (h' := mm_sc h a b sp dp n) hr.1 hr.2 rfl (fun d hd => mm_ce_eq rfl rfl (if_neg hd) rfl (fun g => rfl) (fun g => rfl)), mm_ce_int (h := mm_sc h a b sp dp n) hk hc]
  have e : mm_a (mm_sc h a b sp dp n) b = va_cpy (mm_a h a) (mm_a h b) sp dp n := if_pos rfl
  rw [e]
  rfl
theorem mm_ww_sq {B : Nat} {cA : Nat → ClassId} {h : mm_H} {a j t : Nat} {x : Nat} (hw : mm_wf h) (hk : mm_k h a = 20 + t) (hc : 2 ≤ t) (hx : x ≠ 0) : mm_ww B cA (mm_sq h a j x) = (mm_ww B cA h).set (a - 1) (B + a, .inl (cA t, mm_n h a, .inr (.inr (.inr (.inr (va_up (fun j => mm_ob B (mm_q h a j)) j (some (B + x)))))))) := by
  have hr := hw a (by omega)
  rw [mm_ww_set (h := h) (h' := mm_sq h a j x) hr.1 hr.2 rfl (fun b hb => mm_ce_eq rfl rfl rfl (by funext q; exact mm_u_ne (Or.inl hb)) (fun g => rfl) (fun g => rfl)), mm_ce_ref (h := mm_sq h a j x) hk hc]
  have e : (fun q => mm_ob B (mm_q (mm_sq h a j x) a q)) = va_up (fun j => mm_ob B (mm_q h a j)) j (some (B + x)) := by
    funext q
    show mm_ob B (mm_u (mm_q h) a j x a q) = va_up (fun j => mm_ob B (mm_q h a j)) j (some (B + x)) q
    unfold mm_u va_up
    by_cases hq : q = j
    · rw [if_pos ⟨rfl, hq⟩, if_pos hq]
      unfold mm_ob
      rw [if_neg hx]
    · rw [if_neg (fun z => hq z.2), if_neg hq]
  rw [e]
  rfl
theorem mm_cat8 (B : Nat) (ra : Nat → Nat) (S : List Value) : ((S.map (mm_rv B ra)).map fun v => v.category).sum ≤ 2 * S.length := by
  induction S with
  | nil => exact Nat.le_refl 0
  | cons v S ih =>
    rw [List.map_cons, List.map_cons, List.sum_cons, List.length_cons]
    have : (mm_rv B ra v).category ≤ 2 := by rcases lv_cat (mm_rv B ra v) with q | q <;> omega
    omega
/-- which instructions this part is about -/
def mm_isa (i : Instr) : Bool := match i with
  | .getstatic _ | .iaload | .baload | .aaload | .iastore | .bastore | .aastore | .arraylength | .invokespecial _ | .invokestatic _ => true
  | _ => false
section SIM
variable {p : Program} {l : Launch} {e : Env} {R : Room} {s : State} {m : MethodId} {args : Array Value} {below : List Frame} {meth : Method} {c : Code} {H : Heap} {locs : List Loc} {cells slots : Nat} {Q : State → Prop} {M : mm_M} {B : Nat} {ra : Nat → Nat} {ro : mm_Ro} {D : va_G} {cA : Nat → ClassId} {t0 : Nat} {pc pc' len idx : Nat} {i : Instr} {L L' S S' : List Value} {h h' : mm_H} {ls : Array Slot}
theorem mm_sima (X : mm_X p s m args meth c M B ra ro D cA t0) (he : mm_ok1 M (pc, len, idx, i) = true) (hst : mm_st ro i pc L S h = some (pc', L', S', h')) (hi : mm_isa i = true) (J : mm_J B cA D h s H locs) (hls : ls.size = M.2.2.1) (hfr : 1 ≤ R.frames) (hlo : 39 ≤ R.locals) (hcl : cells ≤ R.cells) (hsl : slots ≤ R.slots)
    (kk : ∀ H' locs', L' = L → mm_J B cA D h' s H' locs' → W p l e R s m args below meth c H' locs' cells slots Q (F0 m pc' ls (S'.map (mm_rv B ra)))) : W p l e R s m args below meth c H locs cells slots Q (F0 m pc ls (S.map (mm_rv B ra))) := by
  have J0 := J
  obtain ⟨hx, hb, hml, hown, hts, hK, hE, hsz, hnm⟩ := X
  obtain ⟨hP, hS, hw⟩ := J
  have hlk := mm_lkd he
  have hD := mm_D B cA h
  cases i <;> first | (cases hi; done) | skip
  case getstatic k =>
    have hd : decode M.2.1 pc = .ok (.getstatic idx, 3) := mm_dec he rfl
    have hk := mm_hasn_of (show mm_hasn mm_sl M.2.2.2.2.1.1 idx k = true from hlk)
    have h1 := List.all_eq_true.mp mm_sl_ok _ hk
    simp only [Bool.and_eq_true, decide_eq_true_eq] at h1
    obtain ⟨h1, h2⟩ := h1
    cases hst
    have k2 := kk H locs rfl J0
    rcases h2 with rfl | rfl
    · have hw1 : va_Nw _ s := hE.2.2.2 _ (List.mem_filter.mpr ⟨h1, rfl⟩)
      exact va_getsN hx hb hE.2.1 hS hown (va_Nw.use rfl hw1) (fun _ z => z) hd k2
    · have hw1 : va_Nw _ s := hE.2.2.2 _ (List.mem_filter.mpr ⟨h1, rfl⟩)
      exact va_getsN hx hb hE.2.2.1 hS hown (va_Nw.use rfl hw1) (fun _ z => z) hd k2
  case iaload =>
    have hd : decode M.2.1 pc = .ok (.iaload, 1) := mm_dec he rfl
    unfold mm_st at hst
    dsimp only at hst
    split at hst
    · rename_i x a S0
      split at hst
      · rename_i hk
        cases hst
        rw [List.map_cons, List.map_cons, mm_rv_s (mm_pos hw (by omega))]
        exact va_iald hx hb hK hP (a - 1) 0 (mm_ww_int (t := 0) hw hk.1 (by omega)) rfl (mm_in_of hk.2) hd (kk H locs rfl J0)
      · cases hst
    · rename_i x k S0
      split at hst
      · rename_i hk
        cases hst
        exact va_ti hx hb (hE.1 k) hS (mm_in_of hk) rfl hd (kk H locs rfl J0)
      · cases hst
    · cases hst
  case baload =>
    have hd : decode M.2.1 pc = .ok (.baload, 1) := mm_dec he rfl
    unfold mm_st at hst
    dsimp only at hst
    split at hst
    · rename_i x a S0
      split at hst
      · rename_i hk
        cases hst
        rw [List.map_cons, List.map_cons, mm_rv_s (mm_pos hw (by omega))]
        exact va_zald hx hb hK hP (a - 1) 1 (mm_ww_int (t := 1) hw hk.1 (by omega)) rfl (mm_in_of hk.2) hd (kk H locs rfl J0)
      · cases hst
    · cases hst
  case aaload =>
    have hd : decode M.2.1 pc = .ok (.aaload, 1) := mm_dec he rfl
    unfold mm_st at hst
    dsimp only at hst
    split at hst
    · rename_i x a S0
      split at hst
      · rename_i hk
        cases hst
        have k2 := kk H locs rfl J0
        rw [List.map_cons, mm_rv_ref] at k2
        rw [List.map_cons, List.map_cons, mm_rv_s (mm_pos hw (by omega))]
        obtain ⟨t, ht⟩ : ∃ t, mm_k h a = 20 + t := ⟨mm_k h a - 20, by omega⟩
        have hr := mm_ww_ref (B := B) (cA := cA) hw ht (by omega)
        rcases (show t = 2 ∨ t = 3 ∨ t = 4 ∨ t = 5 by omega) with rfl | rfl | rfl | rfl
        · exact va_aldq hx hb hK hP (a - 1) 2 hr rfl (mm_in_of hk.2) hd k2
        · exact va_aldq hx hb hK hP (a - 1) 3 hr rfl (mm_in_of hk.2) hd k2
        · exact va_aldq hx hb hK hP (a - 1) 4 hr rfl (mm_in_of hk.2) hd k2
        · exact va_aldq hx hb hK hP (a - 1) 5 hr rfl (mm_in_of hk.2) hd k2
      · cases hst
    · cases hst
  case iastore =>
    have hd : decode M.2.1 pc = .ok (.iastore, 1) := mm_dec he rfl
    unfold mm_st at hst
    dsimp only at hst
    split at hst
    · rename_i v x a S0
      split at hst
      · rename_i hk
        cases hst
        rw [List.map_cons, List.map_cons, List.map_cons, mm_rv_s (mm_pos hw (by omega))]
        refine va_iast hx hb hK hP hD hS (a - 1) 0 (mm_ww_int (t := 0) hw hk.1 (by omega)) rfl (mm_in_of hk.2) hd (fun H1 locs1 g1 g2 g3 => kk H1 locs1 rfl ⟨?_, g3, hw⟩)
        rw [mm_ww_sa (t := 0) hw hk.1 (by omega)]; exact g1
      · cases hst
    · cases hst
  case bastore =>
    have hd : decode M.2.1 pc = .ok (.bastore, 1) := mm_dec he rfl
    unfold mm_st at hst
    dsimp only at hst
    split at hst
    · rename_i v x a S0
      split at hst
      · rename_i hk
        cases hst
        rw [List.map_cons, List.map_cons, List.map_cons, mm_rv_s (mm_pos hw (by omega))]
        refine va_zast hx hb hK hP hD hS (a - 1) 1 (mm_ww_int (t := 1) hw hk.1 (by omega)) rfl (mm_in_of hk.2.1) hd (fun H1 locs1 g1 g2 g3 => kk H1 locs1 rfl ⟨?_, g3, hw⟩)
        have hv : vp_nar .boolean v = v := by rcases hk.2.2 with rfl | rfl <;> decide
        rw [hv] at g1
        rw [mm_ww_sa (t := 1) hw hk.1 (by omega)]; exact g1
      · cases hst
    · cases hst
  case aastore =>
    have hd : decode M.2.1 pc = .ok (.aastore, 1) := mm_dec he rfl
    unfold mm_st at hst
    dsimp only at hst
    split at hst
    · rename_i v x a S0
      split at hst
      · rename_i hk
        cases hst
        obtain ⟨hk1, hk2, hk3⟩ := hk
        have hv0 : v ≠ 0 := mm_pos hw (by omega)
        rw [List.map_cons, List.map_cons, List.map_cons, mm_rv_s hv0, mm_rv_s (mm_pos hw (a := a) (by omega))]
        obtain ⟨t, ht⟩ : ∃ t, mm_k h a = 20 + t := ⟨mm_k h a - 20, by omega⟩
        have hr := mm_ww_ref (B := B) (cA := cA) hw ht (by omega)
        rw [ht, Nat.add_sub_cancel_left] at hk3
        have go : ∀ (ci : Nat) (r : vw_C), mm_k h v = ci + 1 → ci < 10 → mm_cl[ci]? = some r → (mm_tys cA)[t]? = some (cA t, .object r.1) → W p l e R s m args below meth c H locs cells slots Q (F0 m pc ls (.ref (B + v) :: .int x :: .ref (B + a) :: S'.map (mm_rv B ra))) := by
          intro ci r g1 g2 g3 g4
          refine va_astq hx hb hK hP hD hS (a - 1) t (v - 1) ci hr g4 (mm_ww_obj hw g1 g2) g3 (mm_in_of hk2) hd (fun H1 locs1 q1 q2 q3 => kk H1 locs1 rfl ⟨?_, q3, hw⟩)
          rw [mm_ww_sq hw ht (by omega) hv0]; exact q1
        rcases (show t = 2 ∨ t = 3 ∨ t = 4 ∨ t = 5 by omega) with rfl | rfl | rfl | rfl
        · exact go 7 _ hk3 (by omega) rfl rfl
        · exact go 8 _ hk3 (by omega) rfl rfl
        · exact go 3 _ hk3 (by omega) rfl rfl
        · exact go 6 _ hk3 (by omega) rfl rfl
      · cases hst
    · cases hst
  case arraylength =>
    have hd : decode M.2.1 pc = .ok (.arraylength, 1) := mm_dec he rfl
    unfold mm_st at hst
    dsimp only at hst
    split at hst
    · rename_i a S0
      split at hst
      · rename_i hk
        cases hst
        rw [List.map_cons, mm_rv_s (mm_pos hw (by omega))]
        obtain ⟨t, ht⟩ : ∃ t, mm_k h a = 20 + t := ⟨mm_k h a - 20, by omega⟩
        rcases (show t = 0 ∨ t = 1 ∨ t = 2 ∨ t = 3 ∨ t = 4 ∨ t = 5 by omega) with rfl | rfl | rfl | rfl | rfl | rfl
        · exact va_alen hx hb hK hP (a - 1) 0 (mm_ww_int hw ht (by omega)) rfl rfl hd (kk H locs rfl J0)
        · exact va_alen hx hb hK hP (a - 1) 1 (mm_ww_int hw ht (by omega)) rfl rfl hd (kk H locs rfl J0)
        · exact va_alen hx hb hK hP (a - 1) 2 (mm_ww_ref hw ht (by omega)) rfl rfl hd (kk H locs rfl J0)
        · exact va_alen hx hb hK hP (a - 1) 3 (mm_ww_ref hw ht (by omega)) rfl rfl hd (kk H locs rfl J0)
        · exact va_alen hx hb hK hP (a - 1) 4 (mm_ww_ref hw ht (by omega)) rfl rfl hd (kk H locs rfl J0)
        · exact va_alen hx hb hK hP (a - 1) 5 (mm_ww_ref hw ht (by omega)) rfl rfl hd (kk H locs rfl J0)
      · cases hst
    · cases hst
      exact va_tlen hx hb (hE.1 _) hS rfl hd (kk H locs rfl J0)
    · cases hst
  case invokespecial z =>
    have hd : decode M.2.1 pc = .ok (.invokespecial idx, 3) := mm_dec he rfl
    unfold mm_st at hst
    dsimp only at hst
    split at hst
    · rename_i a S0
      split at hst
      · rename_i hk
        cases hst
        obtain ⟨rfl, hk1, hk2, hk3⟩ := hk
        simp only [mm_lk, Bool.and_eq_true, if_pos] at hlk
        obtain ⟨y, hy, hw1⟩ := mm_ml_w hlk.2
        cases hy
        rw [List.map_cons, mm_rv_s (mm_pos hw hk1)]
        refine W.objInit hx hb hown (hts _ hw1) (hts _ mm_G_3.2.2.1) (hts _ mm_G_3.2.2.2) rfl (by rw [hml]; exact hls) rfl hd hfr ?_ (kk H locs rfl J0)
        have := mm_cat8 B ra S'
        show 2 * 0 + _ + 12 ≤ _
        omega
      · cases hst
    · cases hst
  case invokestatic z =>
    have hd : decode M.2.1 pc = .ok (.invokestatic idx, 3) := mm_dec he rfl
    unfold mm_st at hst
    dsimp only at hst
    split at hst
    · rename_i n dp b sp a S0
      split at hst
      · rename_i hk
        cases hst
        obtain ⟨rfl, k1, k2, k3, k4, k5, k6, k7, k8⟩ := hk
        simp only [mm_lk, Bool.and_eq_true] at hlk
        have hl2 : mm_has3 mm_ml M.2.2.2.2.1.1 idx 1001 = true := hlk.2
        obtain ⟨y, hy, hw1⟩ := mm_ml_w hl2
        cases hy
        rw [List.map_cons, List.map_cons, List.map_cons, List.map_cons, List.map_cons, mm_rv_s (mm_pos hw (by omega)), mm_rv_s (mm_pos hw (by omega))]
        refine va_copyi hx hb (by rw [hml]; exact hls.symm) hown (hts _ hw1) (hts _ mm_G_1.1.1) (hts _ mm_G_1.1.2) (hts _ mm_G_1.2.1) hK hP hD hS (a - 1) (b - 1) 0 0 (ty := .int) (mm_ww_int (t := 0) hw k1 (by omega)) (mm_ww_int (t := 0) hw k2 (by omega)) rfl rfl rfl k3 k4 k5 k6 k7 (fun _ _ => rfl) hfr ?_ hd (fun H1 locs1 g1 g2 g3 => kk H1 locs1 rfl ⟨?_, g3, hw⟩)
        · have := mm_cat8 B ra S'
          have e : nativeFrameWords "java/lang/System" "arraycopy" 5 = 7 := by decide +kernel
          rw [e]
          omega
        · rw [mm_ww_sc (t := 0) hw k2 (by omega)]; exact g1
      · cases hst
    · rename_i y x S0 _
      split at hst
      · rename_i hk
        cases hst
        obtain ⟨rfl, k8⟩ := hk
        simp only [mm_lk, Bool.and_eq_true] at hlk
        have hl2 : mm_has3 mm_ml M.2.2.2.2.1.1 idx 1002 = true := hlk.2
        obtain ⟨y, hy, hw1⟩ := mm_ml_w hl2
        cases hy
        refine va_mmax hx hb (by rw [hml]; exact hls.symm) hown (hts _ hw1) (hts _ mm_G_2.1) (hts _ mm_G_1.2.2) (hts _ mm_G_2.2.2.1) hfr ?_ hcl hsl hd (kk H locs rfl J0)
        have := mm_cat8 B ra S0
        omega
      · split at hst
        · rename_i hk
          cases hst
          obtain ⟨rfl, k8⟩ := hk
          simp only [mm_lk, Bool.and_eq_true] at hlk
          have hl2 : mm_has3 mm_ml M.2.2.2.2.1.1 idx 1003 = true := hlk.2
          obtain ⟨y, hy, hw1⟩ := mm_ml_w hl2
          cases hy
          refine va_mmin hx hb (by rw [hml]; exact hls.symm) hown (hts _ hw1) (hts _ mm_G_2.2.1) (hts _ mm_G_1.2.2) (hts _ mm_G_2.2.2.2) hfr ?_ hcl hsl hd (kk H locs rfl J0)
          have := mm_cat8 B ra S0
          omega
        · cases hst
    · cases hst
end SIM
end
section
theorem mm_fk_le : (List.range 10).all (fun c => (List.range (mm_fks.getD c []).length).all (fun k => decide (mm_fk (64 * c + k) ≤ 2))) = true := by decide +kernel
theorem mm_wf_new {h : mm_H} {k n : Nat} (hw : mm_wf h) : mm_wf (mm_new h k n) := by
  intro a ha
  show 1 ≤ a ∧ a ≤ mm_t h + 1
  by_cases e : a = mm_t h + 1
  · omega
  · have h1 : mm_k (mm_new h k n) a = mm_k h a := if_neg e
    rw [h1] at ha
    have := hw a ha
    omega
theorem mm_ty3 {t : FieldType} (h : mm_tyk t = 0 ∨ mm_tyk t = 1) : defaultValue t = .int 0 := by
  cases t <;> first | rfl | (rcases h with h | h <;> cases h)
theorem mm_RA_one {U : State} {a b : ClassId} {ty : FieldType} (h1 : va_RA U a ty) (h2 : va_RA U b ty) : a = b := by
  cases ty with
  | object C =>
    obtain ⟨_, _, _, _, _, e1⟩ := h1
    obtain ⟨_, _, _, _, _, e2⟩ := h2
    exact Option.some.inj (e1.symm.trans e2)
  | _ =>
    exact Option.some.inj (Eq.trans (Eq.symm h1) h2)
section SIM
variable {p : Program} {l : Launch} {e : Env} {R : Room} {s : State} {m : MethodId} {args : Array Value} {below : List Frame} {meth : Method} {c : Code} {H : Heap} {locs : List Loc} {Q : State → Prop} {M : mm_M} {B : Nat} {ra : Nat → Nat} {ro : mm_Ro} {D : va_G} {cA : Nat → ClassId} {t0 s0 : Nat} {pc pc' len idx : Nat} {i : Instr} {L L' S S' : List Value} {h h' : mm_H} {ls : Array Slot}
/-- behind a row that made a cell -/
theorem mm_made {g : JFrame} {q k n : Nat} {ev : va_E} {H1 : Heap} (hsz : s.heap.size = B + t0 + 1) (ht : t0 ≤ mm_t h) (hs : s0 ≤ mm_s h) (hw : mm_wf h) (hce : mm_ce B cA (mm_new h k n) (mm_t h + 1) = ev) (g1 : va_P D mm_cl (mm_ww B cA h ++ [(q, ev)]) H1) (g2 : va_D (fun q => B < q) (mm_ww B cA h ++ [(q, ev)])) (g3 : va_S (fun q => B < q) s.heap H1 locs)
    (kk : q = B + (mm_t h + 1) → mm_J B cA D (mm_new h k n) s H1 locs → W p l e R s m args below meth c H1 locs (mm_t (mm_new h k n) - t0) (mm_s (mm_new h k n) - s0) Q g) : W p l e R s m args below meth c H1 locs (mm_t h - t0 + 1) (mm_s h - s0 + n) Q g := by
  refine mm_size (fun hz => ?_)
  have hq : q = B + (mm_t h + 1) := mm_fresh rfl g1 g2 (by omega)
  have e1 : mm_t h - t0 + 1 = mm_t (mm_new h k n) - t0 := by show _ = mm_t h + 1 - t0; omega
  have e2 : mm_s h - s0 + n = mm_s (mm_new h k n) - s0 := by show _ = mm_s h + n - s0; omega
  rw [e1, e2]
  refine kk hq ⟨?_, g3, mm_wf_new hw⟩
  rw [mm_ww_new, hce, ← hq]
  exact g1
theorem mm_simn (X : mm_X p s m args meth c M B ra ro D cA t0) (he : mm_ok1 M (pc, len, idx, i) = true) (hst : mm_st ro i pc L S h = some (pc', L', S', h')) (hi : match i with | .new _ => True | .newarray _ => True | .anewarray _ => True | _ => False) (J : mm_J B cA D h s H locs) (ht : t0 ≤ mm_t h) (hs : s0 ≤ mm_s h) (hcl : mm_t h' - t0 ≤ R.cells) (hsl : mm_s h' - s0 ≤ R.slots)
    (kk : ∀ H', L' = L → mm_J B cA D h' s H' locs → W p l e R s m args below meth c H' locs (mm_t h' - t0) (mm_s h' - s0) Q (F0 m pc' ls (S'.map (mm_rv B ra)))) : W p l e R s m args below meth c H locs (mm_t h - t0) (mm_s h - s0) Q (F0 m pc ls (S.map (mm_rv B ra))) := by
  obtain ⟨hx, hb, hml, hown, hts, hK, hE, hsz, hnm⟩ := X
  obtain ⟨hP, hS, hw⟩ := J
  have hlk := mm_lkd he
  have hD := mm_D B cA h
  have hA : ∀ q, s.heap.size ≤ q → (fun q => B < q) q := fun q hq => by show B < q; omega
  have hrv : mm_rv B ra (.ref (mm_t h + 1)) = .ref (B + (mm_t h + 1)) := mm_rv_s (by omega)
  cases i <;> first | exact absurd hi id | skip
  case new ci =>
    have hd : decode M.2.1 pc = .ok (.new idx, 3) := mm_dec he rfl
    obtain ⟨w, hw1⟩ := mm_has3_of (show mm_has3 mm_nc M.2.2.2.2.1.1 idx ci = true from hlk)
    have h1 := List.all_eq_true.mp mm_nc_ok _ hw1
    simp only [Bool.and_eq_true, decide_eq_true_eq] at h1
    have hwl := mm_G_of h1.1 rfl
    unfold mm_st at hst
    dsimp only at hst
    rw [if_pos h1.2] at hst
    cases hst
    obtain ⟨C, T, N, ty, c1, c2, c3, c4, c5, c6, c7⟩ := mm_Ck_all ci h1.2
    have h2 := List.all_eq_true.mp mm_ins_ok ci (List.mem_range.mpr h1.2)
    simp only [Bool.and_eq_true, decide_eq_true_eq] at h2
    rw [← c3, ← c2] at h2
    rw [← c2] at hwl
    have w1 : (Jvm.Cond.instantiable C N).before args s = true := hts _ (List.mem_filter.mpr ⟨h2.1, rfl⟩)
    have w2 : (Jvm.Cond.initialized C).before args s = true := hts _ (List.mem_filter.mpr ⟨h2.2, rfl⟩)
    have hk1 : mm_k (mm_new h (ci + 1) (mm_fks.getD ci []).length) (mm_t h + 1) = ci + 1 := if_pos rfl
    have hfs : ∀ j, j < N → defaultValue (ty j) = vp_V (mm_fv B (mm_new h (ci + 1) (mm_fks.getD ci []).length) ci (mm_t h + 1)) j := by
      intro j hj
      rw [c3] at hj
      unfold vp_V
      rw [List.getD_eq_getElem?_getD, mm_fv_get hj]
      obtain ⟨-, -, -, d4⟩ := c7 j (by rw [c3]; exact hj)
      have hle := List.all_eq_true.mp mm_fk_le ci (List.mem_range.mpr h1.2)
      have hle := List.all_eq_true.mp hle j (List.mem_range.mpr hj)
      simp only [decide_eq_true_eq] at hle
      have z1 : mm_r (mm_new h (ci + 1) (mm_fks.getD ci []).length) (64 * ci + j) (mm_t h + 1) = 0 := if_pos rfl
      have z2 : mm_i (mm_new h (ci + 1) (mm_fks.getD ci []).length) (64 * ci + j) (mm_t h + 1) = 0 := if_pos rfl
      rw [z1, z2]
      by_cases h2 : mm_fk (64 * ci + j) = 2
      · rw [if_pos h2]; exact (mm_ty2 (d4.trans h2) none).2.2
      · rw [if_neg h2]; exact mm_ty3 (by omega)
    have hsl' : mm_s h + N - s0 ≤ R.slots := by rw [c3]; exact hsl
    have hcl' : mm_t h + 1 - t0 ≤ R.cells := hcl
    refine va_new (D := D) (ci := ci) (C := C) (T := T) (N := N) hx hb hts c4 ty c5 hown (hts _ hwl) w1 w2 hK hP hD hS hA c1 hfs (by omega) (by omega) hd (fun q H1 g1 g2 g3 => ?_)
    rw [c3]
    refine mm_made hsz ht hs hw (mm_ce_obj hk1 h1.2) g1 g2 g3 (fun hq j => ?_)
    have k2 := kk H1 rfl j
    rw [List.map_cons, hrv, ← hq] at k2
    exact k2
  case newarray at0 =>
    have hd : decode M.2.1 pc = .ok (.newarray at0, 2) := mm_dec he rfl
    unfold mm_st at hst
    dsimp only at hst
    split at hst
    · rename_i x S0
      rcases mm_if hst with ⟨hk, hst⟩ | ⟨-, hst⟩
      · cases hst
        obtain ⟨k1, k2, k3⟩ := hk
        have hcl' : mm_t h + 1 - t0 ≤ R.cells := hcl
        have hsl' : mm_s h + x.toNatClampNeg - s0 ≤ R.slots := hsl
        rcases k3 with rfl | rfl
        · refine va_newa (D := D) (atype := .int) (ty := .int) (a0 := (x.toNatClampNeg, .inl (fun _ => 0))) hx hb (hts _ mm_G_3.1) rfl hK hP hD hS hA (fun _ => rfl) k1 rfl ?_ (by omega) (by omega) hd (fun q cA' H1 g0 g1 g2 g3 => ?_)
          · have e : componentBytes .int = 4 := by decide
            rw [e]; omega
          · have ec : cA' = cA 0 := mm_RA_one (g0.2 6 _ rfl).2 (g0.2 0 _ rfl).2
            subst ec
            have hk1 : mm_k (mm_new h 20 x.toNatClampNeg) (mm_t h + 1) = 20 + 0 := if_pos rfl
            have z1 : mm_n (mm_new h 20 x.toNatClampNeg) (mm_t h + 1) = x.toNatClampNeg := if_pos rfl
            have z2 : mm_a (mm_new h 20 x.toNatClampNeg) (mm_t h + 1) = fun _ => 0 := if_pos rfl
            refine mm_made (k := 20) hsz ht hs hw (by rw [mm_ce_int hk1 (by omega), z1, z2]) g1 g2 g3 (fun hq j => ?_)
            have k2 := kk H1 rfl j
            rw [List.map_cons, hrv, ← hq] at k2
            exact k2
        · refine va_newa (D := D) (atype := .boolean) (ty := .boolean) (a0 := (x.toNatClampNeg, .inl (fun _ => 0))) hx hb (hts _ mm_G_3.2.1) rfl hK hP hD hS hA (fun _ => rfl) k1 rfl ?_ (by omega) (by omega) hd (fun q cA' H1 g0 g1 g2 g3 => ?_)
          · have e : componentBytes .boolean = 1 := by decide
            rw [e]; omega
          · have ec : cA' = cA 1 := mm_RA_one (g0.2 6 _ rfl).2 (g0.2 1 _ rfl).2
            subst ec
            have hk1 : mm_k (mm_new h 21 x.toNatClampNeg) (mm_t h + 1) = 20 + 1 := if_pos rfl
            have z1 : mm_n (mm_new h 21 x.toNatClampNeg) (mm_t h + 1) = x.toNatClampNeg := if_pos rfl
            have z2 : mm_a (mm_new h 21 x.toNatClampNeg) (mm_t h + 1) = fun _ => 0 := if_pos rfl
            refine mm_made (k := 21) hsz ht hs hw (by rw [mm_ce_int hk1 (by omega), z1, z2]) g1 g2 g3 (fun hq j => ?_)
            have k2 := kk H1 rfl j
            rw [List.map_cons, hrv, ← hq] at k2
            exact k2
      · cases hst
    · cases hst
  case anewarray t =>
    have hd : decode M.2.1 pc = .ok (.anewarray idx, 3) := mm_dec he rfl
    obtain ⟨w, hw1⟩ := mm_has3_of (show mm_has3 mm_na M.2.2.2.2.1.1 idx t = true from hlk)
    have h1 := List.all_eq_true.mp mm_na_ok _ hw1
    simp only [Bool.and_eq_true, decide_eq_true_eq] at h1
    have hwl := mm_G_of h1.1 rfl
    have hao : va_AO (mm_N.getD (mm_ac.getD t 0) "") s := hE.2.2.2 _ (mm_G_4 t h1.2.1 h1.2.2)
    unfold mm_st at hst
    dsimp only at hst
    split at hst
    · rename_i x S0
      rcases mm_if hst with ⟨hk, hst⟩ | ⟨-, hst⟩
      · cases hst
        obtain ⟨k1, k2, k3, k4⟩ := hk
        have hcl' : mm_t h + 1 - t0 ≤ R.cells := hcl
        have hsl' : mm_s h + x.toNatClampNeg - s0 ≤ R.slots := hsl
        refine va_newq (D := D) hx hb hown (hts _ hwl) hao hK hP hD hS hA k1 rfl (by omega) (by omega) (by omega) hd (fun q cA' H1 g0 g1 g2 g3 => ?_)
        have ec : cA' = cA t := by
          rcases (show t = 2 ∨ t = 3 ∨ t = 4 ∨ t = 5 by omega) with rfl | rfl | rfl | rfl
          · exact mm_RA_one (g0.2 6 _ rfl).2 (g0.2 2 _ rfl).2
          · exact mm_RA_one (g0.2 6 _ rfl).2 (g0.2 3 _ rfl).2
          · exact mm_RA_one (g0.2 6 _ rfl).2 (g0.2 4 _ rfl).2
          · exact mm_RA_one (g0.2 6 _ rfl).2 (g0.2 5 _ rfl).2
        subst ec
        have hk1 : mm_k (mm_new h (20 + t) x.toNatClampNeg) (mm_t h + 1) = 20 + t := if_pos rfl
        have z1 : mm_n (mm_new h (20 + t) x.toNatClampNeg) (mm_t h + 1) = x.toNatClampNeg := if_pos rfl
        have z2 : mm_q (mm_new h (20 + t) x.toNatClampNeg) (mm_t h + 1) = fun _ => 0 := if_pos rfl
        refine mm_made (k := 20 + t) hsz ht hs hw (by rw [mm_ce_ref hk1 k3, z1, z2]; rfl) g1 g2 g3 (fun hq j => ?_)
        have k2 := kk H1 rfl j
        rw [List.map_cons, hrv, ← hq] at k2
        exact k2
      · cases hst
    · cases hst
end SIM
end
section
def mm_is0 (i : Instr) : Bool := match i with
  | .iload _ | .iload_n _ | .aload _ | .aload_n _ | .istore _ | .istore_n _ | .astore _ | .astore_n _ | .iinc _ _ | .iconst _ | .bipush _ | .sipush _ | .aconst_null | .dup | .dup2 | .pop | .iadd | .isub | .imul | .iand | .ior | .ixor | .ishl | .ishr => true
  | _ => false
theorem mm_st_h0 {ro : mm_Ro} {i : Instr} {pc pc' : Nat} {L L' S S' : List Value} {h h' : mm_H} (hi : (mm_is0 i || mm_isj i) = true) (hst : mm_st ro i pc L S h = some (pc', L', S', h')) : h' = h := by
  cases i <;> first | (cases hi; done) | skip
  all_goals
    unfold mm_st at hst
    dsimp only at hst
    (repeat' split at hst) <;> first | (cases hst; done) | (cases hst; rfl)
theorem mm_st_mono {ro : mm_Ro} {i : Instr} {pc pc' : Nat} {L L' S S' : List Value} {h h' : mm_H} (hst : mm_st ro i pc L S h = some (pc', L', S', h')) : mm_t h ≤ mm_t h' ∧ mm_s h ≤ mm_s h' := by
  cases i
  case newarray t =>
    unfold mm_st at hst
    dsimp only at hst
    split at hst
    · rcases mm_if hst with ⟨hk, hst⟩ | ⟨-, hst⟩
      · cases hst; exact ⟨Nat.le_succ _, Nat.le_add_right _ _⟩
      · cases hst
    · cases hst
  case anewarray t =>
    unfold mm_st at hst
    dsimp only at hst
    split at hst
    · rcases mm_if hst with ⟨hk, hst⟩ | ⟨-, hst⟩
      · cases hst; exact ⟨Nat.le_succ _, Nat.le_add_right _ _⟩
      · cases hst
    · cases hst
  case new c =>
    unfold mm_st at hst
    dsimp only at hst
    rcases mm_if hst with ⟨hk, hst⟩ | ⟨-, hst⟩
    · cases hst; exact ⟨Nat.le_succ _, Nat.le_add_right _ _⟩
    · cases hst
  all_goals
    unfold mm_st at hst
    dsimp only at hst
    first
      | (cases hst; done)
      | ((repeat' split at hst) <;> first | (cases hst; done) | (cases hst; exact ⟨Nat.le_refl _, Nat.le_refl _⟩))
section SIM
variable {p : Program} {l : Launch} {e : Env} {R : Room} {s : State} {m : MethodId} {args : Array Value} {below : List Frame} {meth : Method} {c : Code} {H : Heap} {locs : List Loc} {Q : State → Prop} {M : mm_M} {B : Nat} {ra : Nat → Nat} {ro : mm_Ro} {D : va_G} {cA : Nat → ClassId} {t0 s0 : Nat} {pc pc' len idx : Nat} {i : Instr} {L L' S S' : List Value} {h h' : mm_H} {ls : Array Slot}
theorem mm_sim1 (X : mm_X p s m args meth c M B ra ro D cA t0) (he : mm_ok1 M (pc, len, idx, i) = true) (hst : mm_st ro i pc L S h = some (pc', L', S', h')) (J : mm_J B cA D h s H locs) (HL : mm_L B ra M.2.2.1 ls L) (ht : t0 ≤ mm_t h) (hs : s0 ≤ mm_s h) (hfr : 1 ≤ R.frames) (hlo : 39 ≤ R.locals) (hcl : mm_t h' - t0 ≤ R.cells) (hsl : mm_s h' - s0 ≤ R.slots)
    (kk : ∀ H' locs' ls', mm_J B cA D h' s H' locs' → mm_L B ra M.2.2.1 ls' L' → W p l e R s m args below meth c H' locs' (mm_t h' - t0) (mm_s h' - s0) Q (F0 m pc' ls' (S'.map (mm_rv B ra)))) : W p l e R s m args below meth c H locs (mm_t h - t0) (mm_s h - s0) Q (F0 m pc ls (S.map (mm_rv B ra))) := by
  have hmono := mm_st_mono hst
  by_cases hj : mm_isj i = true
  · have e0 := mm_st_h0 (by rw [hj, Bool.or_true]) hst
    subst e0
    exact mm_simj X he hst hj HL (fun ls' hl => kk H locs ls' J hl)
  by_cases h0 : mm_is0 i = true
  · have e0 := mm_st_h0 (by rw [h0, Bool.true_or]) hst
    subst e0
    refine mm_sim0 X he hst ?_ HL (fun ls' hl => kk H locs ls' J hl)
    cases i <;> first | (cases h0; done) | trivial
  by_cases ha : mm_isa i = true
  · have hmt : mm_t h' = mm_t h ∧ mm_s h' = mm_s h := by
      cases i <;> first | (cases ha; done) | skip
      all_goals
        unfold mm_st at hst
        dsimp only at hst
        (repeat' split at hst) <;> first | (cases hst; done) | (cases hst; exact ⟨rfl, rfl⟩)
    refine mm_sima X he hst ha J HL.1 hfr hlo (by omega) (by omega) (fun H' locs' e1 j => ?_)
    subst e1
    have k2 := kk H' locs' ls j HL
    rw [hmt.1, hmt.2] at k2
    exact k2
  cases i
  case getfield f =>
    refine mm_simg X he hst J (fun e1 e2 => ?_)
    subst e1; subst e2
    exact kk H locs ls J HL
  case putfield f =>
    have hmt : mm_t h' = mm_t h ∧ mm_s h' = mm_s h := by
      unfold mm_st at hst
      dsimp only at hst
      (repeat' split at hst) <;> first | (cases hst; done) | (cases hst; exact ⟨rfl, rfl⟩)
    refine mm_simp X he hst J (fun H' locs' e1 j => ?_)
    subst e1
    have k2 := kk H' locs' ls j HL
    rw [hmt.1, hmt.2] at k2
    exact k2
  case new a =>
    refine mm_simn X he hst trivial J ht hs hcl hsl (fun H' e1 j => ?_)
    subst e1
    exact kk H' locs ls j HL
  case newarray a =>
    refine mm_simn X he hst trivial J ht hs hcl hsl (fun H' e1 j => ?_)
    subst e1
    exact kk H' locs ls j HL
  case anewarray a =>
    refine mm_simn X he hst trivial J ht hs hcl hsl (fun H' e1 j => ?_)
    subst e1
    exact kk H' locs ls j HL
  all_goals first | exact absurd rfl h0 | exact absurd rfl hj | exact absurd rfl ha | (unfold mm_st at hst; cases hst; done)
end SIM
end
section
def mm_ws (Z : mm_M) : List Jvm.Cond := .code Z.1 Z.2.1 Z.2.2.1 Z.2.2.2.1 :: mm_G
def mm_rm (d mc ms : Nat) : Room := { frames := d, cells := mc, slots := ms, locals := 39 * d }
def mm_PC (B : Nat) (ra : Nat → Nat) (ro : mm_Ro) (D : va_G) (cA : Nat → ClassId) (As : List Value) (h : mm_H) : Array Value → State → Prop := va_Pc (As.map (mm_rv B ra)) (fun U => U.heap.size = B + mm_t h + 1 ∧ va_P D mm_cl (mm_ww B cA h) U.heap ∧ va_K D mm_cl (mm_tys cA) U ∧ mm_E B ra ro U ∧ mm_wf h)
def mm_rr (B : Nat) (ra : Nat → Nat) (ret : Option FieldType) (r : Value) : Option Value := match ret with
  | none => none
  | some _ => some (mm_rv B ra r)
def mm_QC (B : Nat) (ra : Nat → Nat) (D : va_G) (cA : Nat → ClassId) (ret : Option FieldType) (r : Value) (h' : mm_H) : Array Value → State → Outcome → State → Prop := fun _ st oc t => oc = .returned (mm_rr B ra ret r) ∧ va_P D mm_cl (mm_ww B cA h') t.heap ∧ mm_wf h' ∧ va_F (fun q => B < q) st t
theorem mm_good {ws : List Jvm.Cond} (h : ∀ w ∈ ws, w ∈ mm_G) : GoodIn mm_G ws := fun w hw => ⟨h w hw, good_of_word (List.mem_filter.mp (h w hw)).2⟩
theorem mm_Bw_to {w : Jvm.Cond} (hw : w ∈ mm_Bw) {s U : State} (hW : s.WarmedH U.vm) (h : va_Nw w s) : va_Nw w U := by
  have hb := (List.mem_filter.mp hw).2
  cases w <;> first | (cases hb; done) | skip
  case fieldLinkNest => exact va_Nw.warmF hW h
  case methodLinkNest => exact va_Nw.warmM hW h
  case arrayOver t =>
    cases t <;> first | (cases hb; done) | skip
    case object C => exact va_AO.moved hW.alike h
theorem mm_Bw_same {w : Jvm.Cond} (hw : w ∈ mm_Bw) {s U : State} (hW : s.vm = U.vm) (h : va_Nw w s) : va_Nw w U := by
  have hb := (List.mem_filter.mp hw).2
  cases w <;> first | (cases hb; done) | skip
  case fieldLinkNest => exact va_Nw.same rfl hW h
  case methodLinkNest => exact va_Nw.same rfl hW h
  case arrayOver t =>
    cases t <;> first | (cases hb; done) | skip
    case object C => exact va_AO.moved (by rw [hW]; exact Vm.Alike.refl _) h
theorem mm_E.to {B : Nat} {ra : Nat → Nat} {ro : mm_Ro} {s U : State} (h : mm_E B ra ro s) (hW : s.WarmedH U.vm) (hH : ∀ q : Nat, q < s.heap.size → ¬ (B < q) → U.heap[q]? = s.heap[q]?) : mm_E B ra ro U :=
  ⟨fun k => ((h.1 k).kept hH).moved hW.alike, (h.2.1.kept hH).moved hW.alike, (h.2.2.1.kept hH).moved hW.alike, fun w hw => mm_Bw_to hw hW (h.2.2.2 w hw)⟩
theorem mm_blind (B : Nat) (ra : Nat → Nat) (ro : mm_Ro) (D : va_G) (cA : Nat → ClassId) (As : List Value) (h : mm_H) : FrameBlind (mm_PC B ra ro D cA As h) := by
  intro a U g mk q
  obtain ⟨q0, q1, qP, qK, qE, qw⟩ := q
  refine ⟨q0, q1, qP, va_K.moved (u := U) (U := U.calling g mk a) (Vm.Alike.refl U.vm) qK, ⟨fun k => (qE.1 k).moved (U := U.calling g mk a) (Vm.Alike.refl U.vm), qE.2.1.moved (U := U.calling g mk a) (Vm.Alike.refl U.vm), qE.2.2.1.moved (U := U.calling g mk a) (Vm.Alike.refl U.vm), fun w hw => mm_Bw_same (s := U) (U := U.calling g mk a) hw rfl (qE.2.2.2 w hw)⟩, qw⟩
section SIM
variable {p : Program} {l : Launch} {e : Env} {R : Room} {s : State} {m : MethodId} {args : Array Value} {below : List Frame} {meth : Method} {c : Code} {H : Heap} {locs : List Loc} {Q : State → Prop} {M Z : mm_M} {B : Nat} {ra : Nat → Nat} {ro : mm_Ro} {D : va_G} {cA : Nat → ClassId} {t0 s0 : Nat} {pc pc' len idx : Nat} {i : Instr} {L L' S S' : List Value} {h h' h1 : mm_H} {ls : Array Slot}
theorem mm_goon {cells slots mc ms : Nat} {st0 rest : List Value} {ret : Option FieldType} {r : Value} {a : Array Value} (hr : va_Run p l e R s m args below meth c H locs cells slots mc ms (F0 m pc ls st0) rest (mm_QC B ra D cA ret r h1 a) (fun q => B < q)) (hS : va_S (fun q => B < q) s.heap H locs)
    (kk : ∀ H' locs', mm_J B cA D h1 s H' locs' → W p l e R s m args below meth c H' locs' (cells + mc) (slots + ms) Q (F0 m (pc + 3) ls ((mm_rr B ra ret r).toList ++ rest))) : W p l e R s m args below meth c H locs cells slots Q (F0 m pc ls st0) := by
  intro T hT X
  obtain ⟨v, st₀, t, T', L, h0, X', hL, e1, e2, ⟨hv, hP1, hw1, hz, hk⟩, st⟩ := hr T hT X
  cases hv
  rw [h0] at hz hk
  obtain ⟨t2, a1, b1⟩ := kk T'.heap (locs ++ L) ⟨by rw [e1]; exact hP1, ⟨Nat.le_trans hS.1 (by rw [e1]; exact hz), fun q g1 g2 => by rw [e1, hk q (Nat.lt_of_lt_of_le g1 hS.1) g2]; exact hS.2.1 q g1 g2, fun q hq => by
      rcases List.mem_append.mp hq with g | g
      · exact hS.2.2 q g
      · exact hL q g⟩, hw1⟩ T' rfl X'
  exact ⟨t2, st t2 a1, b1⟩
theorem mm_Hsize {cells : Nat} (hsz : s.heap.size = B + t0 + 1) (ht : t0 ≤ mm_t h) (J : mm_J B cA D h s H locs) (hz : H.size ≤ s.heap.size + (mm_t h - t0)) : H.size = B + mm_t h + 1 := by
  have h1 : B + mm_t h < H.size := by
    rcases Nat.eq_zero_or_pos (mm_t h) with q | q
    · have := J.2.1.1
      omega
    · exact (J.1 _ _ (mm_ww_at B cA h (a := mm_t h) q (Nat.le_refl _))).lt
  omega
theorem mm_cat1 (B : Nat) (ra : Nat → Nat) {S : List Value} (hS : S.all mm_c1 = true) : ((S.map (mm_rv B ra)).map fun v => v.category).sum = S.length := by
  induction S with
  | nil => rfl
  | cons v S ih =>
    simp only [List.all_cons, Bool.and_eq_true] at hS
    rw [List.map_cons, List.map_cons, List.sum_cons, List.length_cons, ih hS.2]
    have : (mm_rv B ra v).category = 1 := by
      cases v <;> first | (cases hS.1; done) | rfl | exact mm_rv_cat B ra _
    omega
theorem mm_call {d z : Nat} {As S0 : List Value} {r : Value} (X : mm_X p s m args meth c M B ra ro D cA t0) (he : mm_ok1 M (pc, len, idx, i) = true) (hca : mm_ca i = some z) (hZ : mm_ms[z]? = some Z)
    (hM : Met l Z.1 (mm_ws Z) (mm_rm d (mm_t h1 - mm_t h) (mm_s h1 - mm_s h)) (mm_PC B ra ro D cA As h) (mm_QC B ra D cA Z.2.2.2.1 r h1) (mm_t h1 - mm_t h) (mm_s h1 - mm_s h) (fun q => B < q))
    (hS : S = As.reverse ++ S0) (hn : As.length = mm_na' Z) (h8 : S0.length ≤ 8) (hc1 : S0.all mm_c1 = true) (hrc : mm_rc Z h As = true) (J : mm_J B cA D h s H locs) (hls : ls.size = M.2.2.1) (ht : t0 ≤ mm_t h) (hs : s0 ≤ mm_s h) (ht1 : mm_t h ≤ mm_t h1) (hs1 : mm_s h ≤ mm_s h1) (hfr : d + 1 ≤ R.frames) (hlo : 39 * (d + 1) ≤ R.locals) (hcl : mm_t h1 - t0 ≤ R.cells) (hsl : mm_s h1 - s0 ≤ R.slots)
    (kk : ∀ H' locs', mm_J B cA D h1 s H' locs' → W p l e R s m args below meth c H' locs' (mm_t h1 - t0) (mm_s h1 - s0) Q (F0 m (pc + 3) ls ((if Z.2.2.2.1 = none then S0 else r :: S0).map (mm_rv B ra)))) : W p l e R s m args below meth c H locs (mm_t h - t0) (mm_s h - s0) Q (F0 m pc ls (S.map (mm_rv B ra))) := by
  refine mm_size (fun hz => ?_)
  obtain ⟨hx, hb, hml, hown, hts, hK, hE, hsz, hnm⟩ := X
  have hH := mm_Hsize (cells := 0) hsz ht J hz
  obtain ⟨hP, hS', hw⟩ := J
  have hlk := mm_lkd he
  obtain ⟨o1, o2, o3, o4, o5, o6, o7, o8, o9, o10⟩ := mm_ms_2 Z (List.mem_of_getElem? hZ)
  have w1 := mm_G_of o1 rfl
  have w4 := mm_G_of o4 rfl
  have hpre : ∀ U : State, U.heap = H → s.WarmedH U.vm → mm_PC B ra ro D cA As h (As.map (mm_rv B ra)).toArray U := fun U hU hW => ⟨rfl, by rw [hU]; exact hH, by rw [hU]; exact hP, va_K.moved hW.alike hK, hE.to hW (fun q g1 g2 => by rw [hU]; exact hS'.2.1 q g1 g2), hw⟩
  have hW8 : 2 * (F0 m pc ls (S.map (mm_rv B ra))).monitorRoom + ((S0.map (mm_rv B ra)).map fun v => v.category).sum ≤ 8 := by
    rw [mm_cat1 B ra hc1]
    show 2 * 0 + S0.length ≤ 8
    omega
  have hR : (mm_rm d (mm_t h1 - mm_t h) (mm_s h1 - mm_s h)).frames + 1 ≤ R.frames ∧ 8 + (Z.2.2.1 + 11) + (mm_rm d (mm_t h1 - mm_t h) (mm_s h1 - mm_s h)).locals ≤ R.locals := ⟨hfr, by show 8 + (Z.2.2.1 + 11) + 39 * d ≤ R.locals; omega⟩
  have hG : GoodIn mm_G (mm_ws Z) := mm_good (fun w hw' => by rcases List.mem_cons.mp hw' with rfl | q; exact w1; exact q)
  have hf : mm_t h - t0 + (mm_t h1 - mm_t h) ≤ R.cells ∧ mm_s h - s0 + (mm_s h1 - mm_s h) ≤ R.slots := ⟨by omega, by omega⟩
  have hfix : CallFix p m c M.2.1 M.2.2.1 s args mm_G (mm_N.getD M.2.2.2.2.1.1 "") := ⟨hx, hb, hml, hown, hts⟩
  have e1 : mm_t h - t0 + (mm_t h1 - mm_t h) = mm_t h1 - t0 := by omega
  have e2 : mm_s h - s0 + (mm_s h1 - mm_s h) = mm_s h1 - s0 := by omega
  have hrest : (mm_rr B ra Z.2.2.2.1 r).toList ++ S0.map (mm_rv B ra) = (if Z.2.2.2.1 = none then S0 else r :: S0).map (mm_rv B ra) := by
    cases Z.2.2.2.1 with
    | none => rfl
    | some t => rfl
  have fin : va_Run p l e R s m args below meth c H locs (mm_t h - t0) (mm_s h - s0) (mm_t h1 - mm_t h) (mm_s h1 - mm_s h) (F0 m pc ls (S.map (mm_rv B ra))) (S0.map (mm_rv B ra)) (mm_QC B ra D cA Z.2.2.2.1 r h1 (As.map (mm_rv B ra)).toArray) (fun q => B < q) → W p l e R s m args below meth c H locs (mm_t h - t0) (mm_s h - s0) Q (F0 m pc ls (S.map (mm_rv B ra))) := by
    intro hr
    refine mm_goon hr hS' (fun H' locs' j => ?_)
    rw [e1, e2, hrest]
    exact kk H' locs' j
  -- the receiver
  have recv : Z.2.2.2.2.1.2.2 = false → ∃ (b : Nat) (As' : List Value), As = .ref b :: As' ∧ mm_k h b = Z.2.2.2.2.1.1 + 1 ∧ As'.length = Z.2.2.2.2.1.2.1 := by
    intro hst
    unfold mm_rc at hrc
    unfold mm_na' at hn
    rw [hst] at hrc hn
    cases As with
    | nil => cases hrc
    | cons v As' =>
      cases v <;> first | (cases hrc; done) | skip
      case ref b =>
        refine ⟨b, As', rfl, of_decide_eq_true hrc, ?_⟩
        have : As'.length + 1 = Z.2.2.2.2.1.2.1 + 1 := hn
        omega
  have stat : Z.2.2.2.2.1.2.2 = true → As.length = Z.2.2.2.2.1.2.1 := by
    intro hst
    unfold mm_na' at hn
    rw [hst] at hn
    exact hn
  have hnme : mm_nme z = some Z.1 := by
    have hlt : z < mm_ms.length := (List.getElem?_eq_some_iff.mp hZ).1
    have hln : mm_ms.length = 190 := by decide +kernel
    unfold mm_nme
    rw [if_neg (by omega), if_neg (by omega), if_neg (by omega), if_neg (by omega), hZ]
    rfl
  have hz1 : z < 1000 := by
    have hlt : z < mm_ms.length := (List.getElem?_eq_some_iff.mp hZ).1
    have hln : mm_ms.length = 190 := by decide +kernel
    omega
  have hstk : ∀ (b : Nat) (As' : List Value), As = .ref b :: As' → b ≠ 0 → S.map (mm_rv B ra) = (As'.map (mm_rv B ra)).reverse ++ .ref (B + b) :: S0.map (mm_rv B ra) := by
    intro b As' e3 hb0
    rw [hS, e3, List.map_append, List.map_reverse, List.map_cons, List.reverse_cons, mm_rv_s hb0, List.append_assoc]
    rfl
  cases i <;> first | (cases hca; done) | skip
  case invokevirtual z' =>
    cases hca
    have hd : decode M.2.1 pc = .ok (.invokevirtual idx, 3) := mm_dec he rfl
    simp only [mm_lk, hZ, Bool.and_eq_true, Bool.not_eq_true', beq_eq_false_iff_ne] at hlk
    obtain ⟨hl1, hl2, hl3⟩ := hlk
    obtain ⟨y, hy, hwl⟩ := mm_ml_w hl1
    rw [hnme] at hy
    cases hy
    obtain ⟨b, As', e3, hkb, hlen⟩ := recv hl2
    have w3 := mm_G_of (o3 hl3) rfl
    rw [hl2] at o2
    have w2 := mm_G_of o2 rfl
    have hb0 : b ≠ 0 := mm_pos hw (by omega)
    have hc10 : Z.2.2.2.2.1.1 < 10 := by
      have hall : mm_ms.all (fun Z => Z.2.2.2.2.1.2.2 || decide (Z.2.2.2.2.1.1 < 10)) = true := by decide +kernel
      have := List.all_eq_true.mp hall Z (List.mem_of_getElem? hZ)
      rw [hl2] at this
      simpa using this
    obtain ⟨C, T, N, ty, c1, c2, -⟩ := mm_Ck_all Z.2.2.2.2.1.1 hc10
    have hC : C = Z.1.cls := by
      rw [c2, List.getD_eq_getElem?_getD, o5]; rfl
    refine fin ?_
    have hp : PreV s H Z.1.cls (B + b) (mm_PC B ra ro D cA As h) (As'.map (mm_rv B ra)) := by
      refine ⟨mm_blind B ra ro D cA As h, ?_, fun U g1 g2 => ?_⟩
      · have := va_recv hK hP c1 (mm_ww_obj hw hkb hc10)
        rw [← hC]; exact this
      · have := hpre U g1 g2
        rw [e3, List.map_cons, mm_rv_s hb0] at this
        rw [e3]; exact this
    have hr := va_runV (C := Z.1.cls) (b := B + b) (As := As'.map (mm_rv B ra)) (rest := S0.map (mm_rv B ra)) (g := F0 m pc ls (S.map (mm_rv B ra))) (n := Z.2.2.2.2.1.2.1) (locs := locs) (cells := mm_t h - t0) (slots := mm_s h - s0) (below := below) (meth := meth) (e := e) hfix hM ⟨callB_of Z.2.2.2.2.1.2.1 hts hG rfl rfl rfl (hts _ w4) (hts _ hwl) ⟨o7, o8, o9⟩ hR, hts _ w2, hts _ w3⟩ hp rfl (by rw [List.length_map]; exact hlen) hls (hstk b As' e3 hb0) hW8 hd hf
    have e4 : (Value.ref (B + b) :: As'.map (mm_rv B ra)).toArray = (As.map (mm_rv B ra)).toArray := by rw [e3, List.map_cons, mm_rv_s hb0]
    rw [e4] at hr
    exact hr
  case invokespecial z' =>
    have hzz : z' = z := by
      unfold mm_ca at hca
      dsimp only at hca
      split at hca
      · cases hca; rfl
      · cases hca
    subst hzz
    have hd : decode M.2.1 pc = .ok (.invokespecial idx, 3) := mm_dec he rfl
    simp only [mm_lk, hZ, Bool.and_eq_true, Bool.or_eq_true, Bool.not_eq_true', beq_iff_eq] at hlk
    rw [if_neg (by omega)] at hlk
    simp only [Bool.and_eq_true, Bool.not_eq_true', beq_iff_eq] at hlk
    obtain ⟨hl1, ⟨hl2, hl3⟩, hl4⟩ := hlk
    have hret : Z.2.2.2.1 = none := by
      revert hl4
      cases Z.2.2.2.1 with
      | none => intro _; rfl
      | some t => intro q; cases q
    obtain ⟨b, As', e3, hkb, hlen⟩ := recv hl2
    rw [hl2] at o2
    have w2 := mm_G_of o2 rfl
    have hb0 : b ≠ 0 := mm_pos hw (by omega)
    refine fin ?_
    have hp : PreS s H (mm_PC B ra ro D cA As h) (.ref (B + b) :: As'.map (mm_rv B ra)) := by
      refine ⟨mm_blind B ra ro D cA As h, fun U g1 g2 => ?_⟩
      have := hpre U g1 g2
      rw [e3, List.map_cons, mm_rv_s hb0] at this
      rw [e3]; exact this
    have e4 : (Value.ref (B + b) :: As'.map (mm_rv B ra)).toArray = (As.map (mm_rv B ra)).toArray := by rw [e3, List.map_cons, mm_rv_s hb0]
    have hws : mm_ws Z = Jvm.Cond.code Z.1 Z.2.1 Z.2.2.1 none :: mm_G := by unfold mm_ws; rw [hret]
    rcases hl1 with hl1 | hl1
    · obtain ⟨y, hy, hwl⟩ := mm_ml_w hl1
      rw [hnme] at hy
      cases hy
      have hr := va_runI (b := B + b) (As := As'.map (mm_rv B ra)) (rest := S0.map (mm_rv B ra)) (g := F0 m pc ls (S.map (mm_rv B ra))) (n := Z.2.2.2.2.1.2.1) (locs := locs) (cells := mm_t h - t0) (slots := mm_s h - s0) (below := below) (meth := meth) (e := e) hfix hM ⟨callB_of (ws' := mm_G) Z.2.2.2.2.1.2.1 hts hG hws rfl rfl (hts _ w4) (hts _ hwl) ⟨o7, o8, o9⟩ hR, hl3, hts _ w2⟩ hp rfl (by rw [List.length_map]; exact hlen) hls (hstk b As' e3 hb0) hW8 hd hf
      rw [e4] at hr
      exact hr
    · have hm := List.all_eq_true.mp mm_mn_ok _ (mm_hasn_of hl1)
      dsimp only at hm
      rw [hnme] at hm
      have hwl : va_Nw _ s := hE.2.2.2 _ (List.mem_filter.mpr ⟨of_decide_eq_true hm, rfl⟩)
      have hr := va_runIN (b := B + b) (As := As'.map (mm_rv B ra)) (rest := S0.map (mm_rv B ra)) (g := F0 m pc ls (S.map (mm_rv B ra))) (n := Z.2.2.2.2.1.2.1) (locs := locs) (cells := mm_t h - t0) (slots := mm_s h - s0) (below := below) (meth := meth) (e := e) hfix hM ⟨va_cnB (ws' := mm_G) Z.2.2.2.2.1.2.1 hts hG hws rfl rfl hwl (hts _ w4) ⟨o7, o8, o9⟩ hR, hl3, hts _ w2⟩ hp rfl (by rw [List.length_map]; exact hlen) hls (hstk b As' e3 hb0) hW8 hd hf
      rw [e4] at hr
      exact hr
  case invokestatic z' =>
    have hzz : z' = z := by
      unfold mm_ca at hca
      dsimp only at hca
      split at hca
      · cases hca; rfl
      · cases hca
    subst hzz
    have hd : decode M.2.1 pc = .ok (.invokestatic idx, 3) := mm_dec he rfl
    simp only [mm_lk, hZ, Bool.and_eq_true, Bool.or_eq_true] at hlk
    rw [if_neg (by omega)] at hlk
    obtain ⟨hl1, hl2⟩ := hlk
    have hlen := stat hl2
    rw [hl2] at o2
    have w2 := mm_G_of o2 rfl
    refine fin ?_
    have hp : PreS s H (mm_PC B ra ro D cA As h) (As.map (mm_rv B ra)) := ⟨mm_blind B ra ro D cA As h, fun U g1 g2 => hpre U g1 g2⟩
    have hstk2 : S.map (mm_rv B ra) = (As.map (mm_rv B ra)).reverse ++ S0.map (mm_rv B ra) := by rw [hS, List.map_append, List.map_reverse]
    rcases hl1 with hl1 | hl1
    · obtain ⟨y, hy, hwl⟩ := mm_ml_w hl1
      rw [hnme] at hy
      cases hy
      exact va_runS (As := As.map (mm_rv B ra)) (rest := S0.map (mm_rv B ra)) (g := F0 m pc ls (S.map (mm_rv B ra))) (n := Z.2.2.2.2.1.2.1) hfix hM ⟨callB_of Z.2.2.2.2.1.2.1 hts hG rfl rfl rfl (hts _ w4) (hts _ hwl) ⟨o7, o8, o9⟩ hR, hts _ w2⟩ hp rfl (by rw [List.length_map]; exact hlen) hls hstk2 hW8 hd hf
    · have hm := List.all_eq_true.mp mm_mn_ok _ (mm_hasn_of hl1)
      dsimp only at hm
      rw [hnme] at hm
      have hwl : va_Nw _ s := hE.2.2.2 _ (List.mem_filter.mpr ⟨of_decide_eq_true hm, rfl⟩)
      exact va_runSN (As := As.map (mm_rv B ra)) (rest := S0.map (mm_rv B ra)) (g := F0 m pc ls (S.map (mm_rv B ra))) (n := Z.2.2.2.2.1.2.1) hfix hM ⟨va_cnB Z.2.2.2.2.1.2.1 hts hG rfl rfl rfl hwl (hts _ w4) ⟨o7, o8, o9⟩ hR, hts _ w2, trivial⟩ hp rfl (by rw [List.length_map]; exact hlen) hls hstk2 hW8 hd hf
end SIM
end
section
theorem mm_at_mem {M : mm_M} {pc : Nat} {x : Nat × Nat × Instr} (h : mm_at M pc = some x) : (pc, x.1, x.2.1, x.2.2) ∈ M.2.2.2.2.2.2 := by
  unfold mm_at at h
  cases hf : M.2.2.2.2.2.2.find? (fun e => e.1 == pc) with
  | none => rw [hf] at h; cases h
  | some e =>
    rw [hf] at h
    cases h
    have h1 := List.find?_some hf
    have h2 := List.mem_of_find?_eq_some hf
    have h3 : e.1 = pc := by simpa using h1
    rw [← h3]
    exact h2
theorem mm_ex_mono {ms : List mm_M} {ro : mm_Ro} {call : Nat → List Value → mm_H → Option (Value × mm_H)} {M : mm_M} (hc : ∀ z As h r h', call z As h = some (r, h') → mm_t h ≤ mm_t h' ∧ mm_s h ≤ mm_s h') : ∀ (k pc : Nat) (L S : List Value) (h : mm_H) (r : Value) (h' : mm_H), mm_ex ms ro call M k pc L S h = some (r, h') → mm_t h ≤ mm_t h' ∧ mm_s h ≤ mm_s h' := by
  intro k
  induction k with
  | zero => intro pc L S h r h' hex; cases hex
  | succ k ih =>
    intro pc L S h r h' hex
    unfold mm_ex at hex
    split at hex
    · cases hex
    · split at hex
      · cases hex; exact ⟨Nat.le_refl _, Nat.le_refl _⟩
      · split at hex
        · split at hex
          · cases hex
          · rcases mm_if hex with ⟨-, hex⟩ | ⟨-, hex⟩
            · split at hex
              · cases hex
              · rename_i r1 h1 hcall
                have e1 := hc _ _ _ _ _ hcall
                have e2 := ih _ _ _ _ _ _ hex
                omega
            · cases hex
        · split at hex
          · cases hex
          · rename_i hst
            have e1 := mm_st_mono hst
            have e2 := ih _ _ _ _ _ _ hex
            omega
theorem mm_run_mono {ms : List mm_M} {ro : mm_Ro} : ∀ (d n z : Nat) (As : List Value) (h : mm_H) (r : Value) (h' : mm_H), mm_run ms ro d n z As h = some (r, h') → mm_t h ≤ mm_t h' ∧ mm_s h ≤ mm_s h' := by
  intro d
  induction d with
  | zero => intro n z As h r h' hr; cases hr
  | succ d ih =>
    intro n z As h r h' hr
    unfold mm_run at hr
    split at hr
    · cases hr
    · rcases mm_if hr with ⟨-, hr⟩ | ⟨-, hr⟩
      · exact mm_ex_mono (fun z As h r h' q => ih n z As h r h' q) _ _ _ _ _ _ _ hr
      · cases hr
section SIM
variable {p : Program} {l : Launch} {e : Env} {R : Room} {s : State} {m : MethodId} {args : Array Value} {below : List Frame} {meth : Method} {c : Code} {Q : State → Prop} {M : mm_M} {B : Nat} {ra : Nat → Nat} {ro : mm_Ro} {D : va_G} {cA : Nat → ClassId} {t0 s0 : Nat}
theorem mm_sim_ex {d n : Nat} {r : Value} {hf : mm_H}
    (IH : ∀ (z : Nat) (As : List Value) (h : mm_H) (r : Value) (h1 : mm_H) (Z : mm_M), mm_run mm_ms ro d n z As h = some (r, h1) → mm_ms[z]? = some Z → Met l Z.1 (mm_ws Z) (mm_rm d (mm_t h1 - mm_t h) (mm_s h1 - mm_s h)) (mm_PC B ra ro D cA As h) (mm_QC B ra D cA Z.2.2.2.1 r h1) (mm_t h1 - mm_t h) (mm_s h1 - mm_s h) (fun q => B < q))
    (X : mm_X p s m args meth c M B ra ro D cA t0) (hok : ∀ x ∈ M.2.2.2.2.2.2, mm_ok1 M x = true) (hfr : d + 1 ≤ R.frames) (hlo : 39 * (d + 1) ≤ R.locals) (hcl : mm_t hf - t0 ≤ R.cells) (hsl : mm_s hf - s0 ≤ R.slots)
    (hQ : ∀ (pc len idx : Nat) (i : Instr) (ls : Array Slot) (S : List Value) (H : Heap) (locs : List Loc), (pc, len, idx, i) ∈ M.2.2.2.2.2.2 → mm_rt M.2.2.2.1 i S = some r → mm_J B cA D hf s H locs → W p l e R s m args below meth c H locs (mm_t hf - t0) (mm_s hf - s0) Q (F0 m pc ls (S.map (mm_rv B ra)))) :
    ∀ (k pc : Nat) (L S : List Value) (h : mm_H) (H : Heap) (locs : List Loc) (ls : Array Slot), mm_ex mm_ms ro (mm_run mm_ms ro d n) M k pc L S h = some (r, hf) → mm_J B cA D h s H locs → mm_L B ra M.2.2.1 ls L → t0 ≤ mm_t h → s0 ≤ mm_s h → W p l e R s m args below meth c H locs (mm_t h - t0) (mm_s h - s0) Q (F0 m pc ls (S.map (mm_rv B ra))) := by
  intro k
  induction k with
  | zero => intro pc L S h H locs ls hex; cases hex
  | succ k ih =>
    intro pc L S h H locs ls hex J HL ht hs
    unfold mm_ex at hex
    split at hex
    · cases hex
    · rename_i len idx i hat
      have hmem := mm_at_mem hat
      have hi1 := hok _ hmem
      split at hex
      · rename_i r1 hrt
        cases hex
        exact hQ pc len idx i ls S H locs hmem hrt J
      · split at hex
        · rename_i z hca
          split at hex
          · cases hex
          · rename_i Z hZ
            rcases mm_if hex with ⟨hcond, hex⟩ | ⟨-, hex⟩
            · obtain ⟨c1, c2, c3, c4⟩ := hcond
              split at hex
              · cases hex
              · rename_i r1 h1 hcall
                have m1 := mm_run_mono _ _ _ _ _ _ _ hcall
                have m2 := mm_ex_mono (fun z As h r h' q => mm_run_mono d n z As h r h' q) _ _ _ _ _ _ _ hex
                refine mm_call (S0 := S.drop (mm_na' Z)) X hi1 hca hZ (IH _ _ _ _ _ _ hcall hZ) (by rw [List.reverse_reverse, List.take_append_drop]) (by rw [List.length_reverse, List.length_take]; omega) (by rw [List.length_drop]; omega) c3 c4 J HL.1 ht hs m1.1 m1.2 hfr hlo (by omega) (by omega) (fun H' locs' j => ?_)
                exact ih _ _ _ _ _ _ _ hex j HL (by omega) (by omega)
            · cases hex
        · split at hex
          · cases hex
          · rename_i pc' L' S' h' hst
            have m2 := mm_ex_mono (fun z As h r h' q => mm_run_mono d n z As h r h' q) _ _ _ _ _ _ _ hex
            have m1 := mm_st_mono hst
            exact mm_sim1 X hi1 hst J HL ht hs (by omega) (by omega) (by omega) (by omega) (fun H' locs' ls' j hl => ih _ _ _ _ _ _ _ hex j hl (by omega) (by omega))
end SIM
theorem mm_ms_ret : mm_ms.all (fun Z => match Z.2.2.2.1 with | none => true | some t => decide (mm_tyk t ≤ 2)) = true := by decide +kernel
theorem mm_lg {B : Nat} {ra : Nat → Nat} : ∀ {As : List Value}, As.all mm_c1 = true → lg_sl (As.map (mm_rv B ra)) = (As.map (mm_rv B ra)).map Slot.val := by
  intro As
  induction As with
  | nil => intro _; rfl
  | cons v As ih =>
    intro hS
    simp only [List.all_cons, Bool.and_eq_true] at hS
    have hc : (mm_rv B ra v).category = 1 := by
      cases v <;> first | (cases hS.1; done) | rfl | exact mm_rv_cat B ra _
    have e := ih hS.2
    unfold lg_sl at e ⊢
    rw [List.map_cons, List.flatMap_cons, e, if_neg (by omega)]
    rfl
theorem mm_L_entry {B : Nat} {ra : Nat → Nat} {nL : Nat} {As : List Value} (hc : As.all mm_c1 = true) (hl : As.length ≤ nL) : mm_L B ra nL ((lg_sl (As.map (mm_rv B ra)) ++ List.replicate (nL - (lg_sl (As.map (mm_rv B ra))).length) Slot.unset).toArray) (As ++ List.replicate (nL - As.length) .null) := by
  have he := lv_entry (As.map (mm_rv B ra)) (n := nL) (by rw [mm_lg hc, List.length_map, List.length_map]; exact hl)
  refine ⟨he.1, by rw [List.length_append, List.length_replicate]; omega, he.2.1, fun i v hv hn => ?_⟩
  have hi : As[i]? = some v := by
    by_cases q : i < As.length
    · rwa [List.getElem?_append_left q] at hv
    · rw [List.getElem?_append_right (by omega)] at hv
      exact absurd (List.eq_of_mem_replicate (List.mem_of_getElem? hv)) hn
  have hm : mm_c1 v = true := List.all_eq_true.mp hc v (List.mem_of_getElem? hi)
  have hc : (mm_rv B ra v).category = 1 := by
    cases v <;> first | (cases hm; done) | rfl | exact mm_rv_cat B ra _
  refine ⟨?_, hc⟩
  rw [List.getElem?_toArray, mm_lg ‹_›, List.getElem?_append_left (by rw [List.length_map, List.length_map]; exact (List.getElem?_eq_some_iff.mp hi).1), List.getElem?_map, List.getElem?_map, hi]
  rfl
theorem mm_met {l : Launch} {B : Nat} {ra : Nat → Nat} {ro : mm_Ro} {D : va_G} {cA : Nat → ClassId} (n : Nat) : ∀ (d z : Nat) (As : List Value) (h : mm_H) (r : Value) (h1 : mm_H) (Z : mm_M), mm_run mm_ms ro d n z As h = some (r, h1) → mm_ms[z]? = some Z → Met l Z.1 (mm_ws Z) (mm_rm d (mm_t h1 - mm_t h) (mm_s h1 - mm_s h)) (mm_PC B ra ro D cA As h) (mm_QC B ra D cA Z.2.2.2.1 r h1) (mm_t h1 - mm_t h) (mm_s h1 - mm_s h) (fun q => B < q) := by
  intro d
  induction d with
  | zero => intro z As h r h1 Z hr; cases hr
  | succ d ih =>
    intro z As h r h1 Z hrun hZ
    have hmz := List.mem_of_getElem? hZ
    obtain ⟨o1, o2, o3, o4, o5, o6, o7, o8, o9, o10⟩ := mm_ms_2 Z hmz
    unfold mm_run at hrun
    rw [hZ] at hrun
    dsimp only at hrun
    rcases mm_if hrun with ⟨⟨k1, k2, k3⟩, hrun⟩ | ⟨-, hrun⟩
    · refine Met.ofW (cc := Z.2.1) (maxL := Z.2.2.1) (ret := Z.2.2.2.1) o6 rfl ?_
      intro p e s m args below meth c s₁ Bd hml hv
      obtain ⟨rfl, hsz, hP, hK, hE, hw⟩ := hv
      have hx := Bd.exec
      have hb := Bd.bytes
      have hr := Bd.returns
      have hts := atoms_spec (ws := mm_ws Z) Bd.pre
      have hown : s.vm.findClass Z.1.cls = some m.cls := findClass_of_methodNamed Bd.named
      have hlocks := Bd.notSynchronized
      have hnm : meth.name = Z.1.name := (name_of_methodNamed Bd.named Bd.method).1
      have hN : mm_N.getD Z.2.2.2.2.1.1 "" = Z.1.cls := by rw [List.getD_eq_getElem?_getD, o5]; rfl
      have X : mm_X p s m (As.map (mm_rv B ra)).toArray meth c Z B ra ro D cA (mm_t h) := ⟨hx, hb, hml, by rw [hN]; exact hown, fun w hw' => hts w (List.mem_cons_of_mem _ hw'), hK, hE, hsz, fun q => hnm.trans q⟩
      have J : mm_J B cA D h s s.heap [] := ⟨hP, va_S.rf, hw⟩
      rw [lg_entry_eq]
      have key := mm_sim_ex (p := p) (l := l) (e := e) (R := mm_rm (d + 1) (mm_t h1 - mm_t h) (mm_s h1 - mm_s h)) (s := s) (m := m) (below := below) (Q := MQ below (mm_QC B ra D cA Z.2.2.2.1 r h1) (As.map (mm_rv B ra)).toArray s (mm_t h1 - mm_t h) (mm_s h1 - mm_s h) (fun q => B < q)) (t0 := mm_t h) (s0 := mm_s h) ih X (mm_ms_1 Z hmz) (Nat.le_refl _) (Nat.le_refl _) (Nat.le_refl _) (Nat.le_refl _) ?_ n 0 _ [] h s.heap [] _ hrun J (mm_L_entry k3 k2) (Nat.le_refl _) (Nat.le_refl _)
      · rw [Nat.sub_self, Nat.sub_self] at key
        exact key
      · intro pc len idx i ls S H locs hmem hrt J1
        have he := mm_ms_1 Z hmz _ hmem
        have hq : ∀ t : State, t.heap = H → s.WarmedH t.vm → mm_QC B ra D cA Z.2.2.2.1 r h1 (As.map (mm_rv B ra)).toArray s (.returned (mm_rr B ra Z.2.2.2.1 r)) t := fun t ht _ => ⟨rfl, by rw [ht]; exact J1.1, J1.2.2, J1.2.1.F ht⟩
        unfold mm_rt at hrt
        split at hrt
        · rename_i x
          have hd : decode Z.2.1 pc = .ok (.ireturn, 1) := mm_dec he rfl
          rcases mm_if hrt with ⟨hk, hrt⟩ | ⟨-, hrt⟩
          · cases hrt
            rcases hk with hk | hk
            · rw [hk] at hr hq ⊢
              exact W.iret hx hb hr hq J1.2.1.2.2 hd (hlocks := hlocks)
            · rw [hk.1] at hr hq ⊢
              exact W.zret hx hb hr (by rcases hk.2 with rfl | rfl <;> decide) hq J1.2.1.2.2 hd (hlocks := hlocks)
          · cases hrt
        · rename_i a
          have hd : decode Z.2.1 pc = .ok (.areturn, 1) := mm_dec he rfl
          rcases mm_if hrt with ⟨-, hrt⟩ | ⟨hk, hrt⟩
          · cases hrt
          · cases hrt
            have hty := List.all_eq_true.mp mm_ms_ret Z hmz
            cases hret : Z.2.2.2.1 with
            | none => exact absurd (Or.inl hret) hk
            | some t =>
              rw [hret] at hr hty hk
              try rw [hret] at hq
              have hty2 : mm_tyk t ≤ 2 := of_decide_eq_true hty
              have hrt2 : (∃ n, t = .object n) ∨ ∃ t', t = .array t' := by
                cases t <;> first | exact Or.inl ⟨_, rfl⟩ | exact Or.inr ⟨_, rfl⟩ | exact absurd (Or.inr (Or.inl rfl)) hk | exact absurd (Or.inr (Or.inr rfl)) hk | exact absurd hty2 (by decide)
              have hv : mm_rv B ra (.ref a) = .null ∨ ∃ q, mm_rv B ra (.ref a) = .ref q := by
                by_cases q : a = 0
                · subst q; exact Or.inl rfl
                · exact Or.inr ⟨_, mm_rv_s q⟩
              exact W.aret hx hb hr hrt2 hv hq J1.2.1.2.2 hd (hlocks := hlocks)
        · have hd : decode Z.2.1 pc = .ok (.return_, 1) := mm_dec he rfl
          rcases mm_if hrt with ⟨hk, hrt⟩ | ⟨-, hrt⟩
          · cases hrt
            rw [hk] at hr hq ⊢
            exact W.vret hx hb hr hq J1.2.1.2.2 hd (hlocks := hlocks)
          · cases hrt
        · cases hrt
    · cases hrun
end
section
/-! THE CLAIM OUT OF ONE WALK OF THE LAW'S BODY. Your part is whole_start (and what it stands on); all else here is the same for every law, but numbers. -/
def R_law : String := "QualifierGateLaw"
def lw_P (b : Addr) (xs : List Int32) (args : Array Value) (s : State) : Prop := args = #[.ref b] ∧ s.IntsAt b xs ∧ xs.length ≤ 2560 ∧ (Jvm.Cond.and given_1 narrow_1).before args s = true
def lw_Q (_ : Array Value) (s : State) (o : Outcome) (t : State) : Prop := o = .returned (some (.int 1)) ∧ Framed s o t [] 600000 7302250
def lw_Z (below : List Frame) (a : Array Value) (s : State) : State → Prop := fun t => ∃ o, t.status = .running ∧ Ended t below o ∧ lw_Q a s o t
/-- the law's own end, with 1 on the stack, nothing written that was there before, its room as the claim has it -/
theorem lw_ret {p : Program} {l : Launch} {e : Env} {s : State} {m : MethodId} {below : List Frame} {meth : Method} {c : Code} {b : Nat} (hx : p.tables.exec = Jvm.exec) (hb : c.code = code) (hr : meth.sig.returnType = ret) (hlocks : meth.locks = false) {pc : Nat} {H : Heap} {ls : Array Slot} (hdg : decode code pc = .ok (.ireturn, 1)) : W p l e room_1 s m #[Value.ref b] below meth c H [] 600000 7302250 (lw_Z below #[Value.ref b] s) (F0 m pc ls [.int 1]) := by
  intro T hT X
  obtain ⟨fs, hret, hrun, hended, hW, hframe⟩ := X.leave (v := some (.int 1)) (hlocks := hlocks) (fun h => by rw [hr] at h; cases h)
  have hmeth' : T.vm.method? m = some meth := X.method'
  refine ⟨T.setFrames fs, ?_, .returned (some (.int 1)), hrun, hended, rfl, ⟨_, rfl⟩, hW, hframe⟩
  jvm_step X.here [X.here.top, hx, hb, hdg, hmeth', hr, ret, narrow_b1]
  (try refine ⟨rfl, ?_⟩); (try refine ⟨rfl, ?_⟩)
  first | (intro acts; rw [hret _ acts rfl rfl rfl]) | rw [hret _ _ rfl rfl rfl]
  exact Steps.refl _
/-- what holds at the law's entry: the machine, the code, the tables' words (any of lw_tbl by 'hts w (by decide +kernel)'), the script of L ints xs at the cell b, what the Statement gives of the start (any of its parts by flat_of_before) -/
def lw_At (p : Program) (s : State) (m : MethodId) (meth : Method) (c : Code) (b L : Nat) (xs : Nat → Int32) : Prop :=
  p.tables.exec = Jvm.exec ∧ c.code = code ∧ meth.sig.returnType = ret ∧ c.maxLocals = 4 ∧ s.vm.findClass R_law = some m.cls ∧ (∀ w ∈ lw_tbl, w.before #[Value.ref b] s = true) ∧ va_X b L xs s s.heap ∧ b < s.heap.size ∧ meth.locks = false ∧ (Jvm.Cond.and given_1 narrow_1).before #[Value.ref b] s = true
def mm_po : List Int32 := [0, 0, 0, 1, 1, 1, 2, 0, 1, 1, 2, 0, 1, 0, 1, 1, 0, 1]
def mm_pu : List Int32 := [1, 1, 1, 0, 2, 0, 1, 1, 1, 1, 0, 0, 1, 0, 0, 0, 0, 0]
/-- what is only read: the script, POPS, PUSHES -/
def mm_ro (L : Nat) (xs : Nat → Int32) : mm_Ro := fun k => if k = 1 then (18, fun j => mm_po.getD j 0) else if k = 2 then (18, fun j => mm_pu.getD j 0) else (L, xs)
/-- the heap at the start -/
def mm_h0 : mm_H := (fun _ => 0, fun _ _ => 0, fun _ _ => 0, fun _ => 0, fun _ _ => 0, fun _ _ => 0, 0, 0)
theorem mm_st_po {args : Array Value} {s : State} {A : Nat → Prop} (hts : ∀ w ∈ lw_tbl, w.before args s = true) (hgv : (Jvm.Cond.and given_1 narrow_1).before args s = true) (hA : ∀ a : Nat, a < s.heap.size → ¬ A a) : ∃ t : Nat, va_T .int t 18 (fun j => .int (mm_po.getD j 0)) A s s.heap ∧ va_Z "QualifierGate$Op" "POPS" "[I" (.ref t) A s s.heap := by
  have hs := flat_of_before _ hgv
  have h1 : (Jvm.Cond.arrayOf (.static "QualifierGate$Op" "POPS" "[I") .int).before args s = true := hs _ (by decide +kernel)
  have h2 : (Jvm.Cond.eq (.length (.static "QualifierGate$Op" "POPS" "[I")) (.int 18)).before args s = true := hs _ (by decide +kernel)
  have hel : ∀ j : Nat, j < 18 → (Term.elem (.static "QualifierGate$Op" "POPS" "[I") (.int (Int32.ofNat j))).eval args s none [] s = some (.int (mm_po.getD j 0)) := by
    intro j hj
    have hall : (List.range 18).all (fun j => decide (Jvm.Cond.eq (.elem (.static "QualifierGate$Op" "POPS" "[I") (.int (Int32.ofNat j))) (.int (mm_po.getD j 0)) ∈ flatC (Jvm.Cond.and given_1 narrow_1))) = true := by decide +kernel
    have := List.all_eq_true.mp hall j (List.mem_range.mpr hj)
    exact va_eqt (hs _ (of_decide_eq_true this))
  obtain ⟨t, ht, hT⟩ := va_Tof (N := 18) (by decide) h1 (va_eqt h2) hel hA
  exact ⟨t, hT, va_Zof (hts _ (by decide +kernel)) (hts _ (by decide +kernel)) ht hA⟩
theorem mm_st_pu {args : Array Value} {s : State} {A : Nat → Prop} (hts : ∀ w ∈ lw_tbl, w.before args s = true) (hgv : (Jvm.Cond.and given_1 narrow_1).before args s = true) (hA : ∀ a : Nat, a < s.heap.size → ¬ A a) : ∃ t : Nat, va_T .int t 18 (fun j => .int (mm_pu.getD j 0)) A s s.heap ∧ va_Z "QualifierGate$Op" "PUSHES" "[I" (.ref t) A s s.heap := by
  have hs := flat_of_before _ hgv
  have h1 : (Jvm.Cond.arrayOf (.static "QualifierGate$Op" "PUSHES" "[I") .int).before args s = true := hs _ (by decide +kernel)
  have h2 : (Jvm.Cond.eq (.length (.static "QualifierGate$Op" "PUSHES" "[I")) (.int 18)).before args s = true := hs _ (by decide +kernel)
  have hel : ∀ j : Nat, j < 18 → (Term.elem (.static "QualifierGate$Op" "PUSHES" "[I") (.int (Int32.ofNat j))).eval args s none [] s = some (.int (mm_pu.getD j 0)) := by
    intro j hj
    have hall : (List.range 18).all (fun j => decide (Jvm.Cond.eq (.elem (.static "QualifierGate$Op" "PUSHES" "[I") (.int (Int32.ofNat j))) (.int (mm_pu.getD j 0)) ∈ flatC (Jvm.Cond.and given_1 narrow_1))) = true := by decide +kernel
    have := List.all_eq_true.mp hall j (List.mem_range.mpr hj)
    exact va_eqt (hs _ (of_decide_eq_true this))
  obtain ⟨t, ht, hT⟩ := va_Tof (N := 18) (by decide) h1 (va_eqt h2) hel hA
  exact ⟨t, hT, va_Zof (hts _ (by decide +kernel)) (hts _ (by decide +kernel)) ht hA⟩
theorem mm_Kof {args : Array Value} {s : State} (hts : ∀ w ∈ lw_tbl, w.before args s = true) : ∃ (D : va_G) (cA : Nat → ClassId), va_K D mm_cl (mm_tys cA) s := by
  have hG : ∀ w ∈ mm_G, w.before args s = true := fun w hw => hts w (List.mem_filter.mp hw).1
  have h1 : ∀ c : Nat, ∃ x : ClassId × (Nat → Nat), ∀ q : vw_C, mm_cl[c]? = some q → u_Kn s q.1 q.2.1 q.2.2 x.1 x.2 := by
    intro c
    by_cases hc : c < 10
    · obtain ⟨C, T, N, ty, c1, c2, c3, c4, -⟩ := mm_Ck_all c hc
      have h2 := List.all_eq_true.mp mm_ins_ok c (List.mem_range.mpr hc)
      simp only [Bool.and_eq_true, decide_eq_true_eq] at h2
      rw [← c3, ← c2] at h2
      obtain ⟨cC, iS, hk⟩ := u_known (C := C) (T := T) (N := N) (n := N) hG c4 (hts _ h2.1)
      refine ⟨(cC, iS), fun q hq => ?_⟩
      rw [c1] at hq
      cases hq
      exact hk
    · refine ⟨(0, fun _ => 0), fun q hq => ?_⟩
      have := (List.getElem?_eq_some_iff.mp hq).1
      exact absurd this (by show ¬ c < 10; exact hc)
  have h2 : ∀ t : Nat, ∃ x : ClassId, ∀ ty : FieldType, mm_aty[t]? = some ty → ArrOfT s x ty ∧ va_RA s x ty := by
    intro t
    have prim : ∀ ty : FieldType, (ty = .int ∨ ty = .boolean) → Jvm.Cond.arrayClass ty ∈ lw_tbl → ∃ x : ClassId, ArrOfT s x ty ∧ va_RA s x ty := by
      intro ty hty hw
      obtain ⟨c, k, comp, e1, e2, e3⟩ := Cond.arrayClass_spec (hts _ hw)
      refine ⟨c, fun n z => ⟨(fun k h => by cases h), k, e2, comp, e3⟩, ?_⟩
      rcases hty with rfl | rfl <;> exact e1
    have refs : ∀ C : String, Jvm.Cond.arrayOver (.object C) ∈ lw_tbl → ∃ x : ClassId, ArrOfT s x (.object C) ∧ va_RA s x (.object C) := by
      intro C hw
      obtain ⟨comp, cArr, kArr, e1, e2, e3, e4, e5⟩ := Cond.arrayOver_spec (hts _ hw)
      exact ⟨cArr, fun n z => ⟨(fun k h => by cases h), kArr, e3, comp, e4⟩, kArr, comp, e3, e4, e1, e5⟩
    rcases (show t = 0 ∨ t = 1 ∨ t = 2 ∨ t = 3 ∨ t = 4 ∨ t = 5 ∨ 6 ≤ t by omega) with rfl | rfl | rfl | rfl | rfl | rfl | ht
    · obtain ⟨x, hx⟩ := prim .int (Or.inl rfl) (by decide +kernel)
      exact ⟨x, fun ty h => by cases h; exact hx⟩
    · obtain ⟨x, hx⟩ := prim .boolean (Or.inr rfl) (by decide +kernel)
      exact ⟨x, fun ty h => by cases h; exact hx⟩
    · obtain ⟨x, hx⟩ := refs "QualifierGate$Place" (by decide +kernel)
      exact ⟨x, fun ty h => by cases h; exact hx⟩
    · obtain ⟨x, hx⟩ := refs "QualifierGate$Method" (by decide +kernel)
      exact ⟨x, fun ty h => by cases h; exact hx⟩
    · obtain ⟨x, hx⟩ := refs "QualifierGate$Frame" (by decide +kernel)
      exact ⟨x, fun ty h => by cases h; exact hx⟩
    · obtain ⟨x, hx⟩ := refs "QualifierGate$Activation" (by decide +kernel)
      exact ⟨x, fun ty h => by cases h; exact hx⟩
    · refine ⟨0, fun ty hq => ?_⟩
      have := (List.getElem?_eq_some_iff.mp hq).1
      exact absurd this (by show ¬ t < 6; omega)
  obtain ⟨f, hf⟩ := Classical.axiomOfChoice h1
  obtain ⟨cA, hA⟩ := Classical.axiomOfChoice h2
  refine ⟨(fun c => (f c).1, fun c => (f c).2), cA, fun c q hq => hf c q hq, fun k q hq => ?_⟩
  have hk : k < 6 := (List.getElem?_eq_some_iff.mp hq).1
  rcases (show k = 0 ∨ k = 1 ∨ k = 2 ∨ k = 3 ∨ k = 4 ∨ k = 5 by omega) with rfl | rfl | rfl | rfl | rfl | rfl
  · cases hq; exact hA 0 _ rfl
  · cases hq; exact hA 1 _ rfl
  · cases hq; exact hA 2 _ rfl
  · cases hq; exact hA 3 _ rfl
  · cases hq; exact hA 4 _ rfl
  · cases hq; exact hA 5 _ rfl
/-- THE LAW, WALKED BY THE SMALL MACHINE, IS WALKED BY THE GREAT ONE -/
theorem mm_law {p : Program} {e : Env} {s : State} {m : MethodId} {below : List Frame} {meth : Method} {c : Code} (l : Launch) {b L : Nat} {xs : Nat → Int32} (hL : L ≤ 2560) (C0 : lw_At p s m meth c b L xs)
    (hrun : ∃ (n : Nat) (hf : mm_H), mm_ex mm_ms (mm_ro L xs) (mm_run mm_ms (mm_ro L xs) 9 n) mm_m_La_law n 0 [.retAddr 0, .null, .null, .null] [] mm_h0 = some (.int 1, hf) ∧ mm_t hf ≤ 600000 ∧ mm_s hf ≤ 7302250) : W p l e room_1 s m #[Value.ref b] below meth c s.heap [] 0 0 (lw_Z below #[Value.ref b] s) (entryFrame m ([Value.ref b] : List Value).toArray 4) := by
  obtain ⟨hx, hb, hr, hml, hown, hts, hX, hbl, hlocks, hgv⟩ := C0
  obtain ⟨n, hf, hex, hcl, hsl⟩ := hrun
  obtain ⟨B, hB⟩ : ∃ B, s.heap.size = B + 1 := ⟨s.heap.size - 1, by omega⟩
  have hA : ∀ a : Nat, a < s.heap.size → ¬ (fun q => B < q) a := fun a ha q => by
    have : B < a := q
    omega
  obtain ⟨D, cA, hK⟩ := mm_Kof hts
  obtain ⟨a1, hT1, hZ1⟩ := mm_st_po (A := fun q => B < q) hts hgv hA
  obtain ⟨a2, hT2, hZ2⟩ := mm_st_pu (A := fun q => B < q) hts hgv hA
  have hT0 : va_T .int b L (fun j => .int (xs j)) (fun q => B < q) s s.heap := by
    obtain ⟨scr, h1, h2, h3, h4, h5⟩ := hX
    exact ⟨scr, h1, h2, h3, by omega, by rw [h4] <;> rfl, h5, hA b hbl⟩
  have hE : mm_E B (fun k => if k = 1 then a1 else if k = 2 then a2 else b) (mm_ro L xs) s := by
    refine ⟨fun k => ?_, hZ1, hZ2, fun w hw => ?_⟩
    · by_cases k1 : k = 1
      · subst k1; exact hT1
      · by_cases k2 : k = 2
        · subst k2; exact hT2
        · have e1 : (if k = 1 then a1 else if k = 2 then a2 else b) = b := by rw [if_neg k1, if_neg k2]
          have e2 : mm_ro L xs k = (L, xs) := by unfold mm_ro; rw [if_neg k1, if_neg k2]
          show va_T .int (if k = 1 then a1 else if k = 2 then a2 else b) _ _ _ s s.heap
          rw [e1, e2]
          exact hT0
    · have hb1 := (List.mem_filter.mp hw)
      have h1 := hts w hb1.1
      have h2 := hb1.2
      cases w <;> first | (cases h2; done) | skip
      case fieldLinkNest => exact va_Nw.of rfl h1
      case methodLinkNest => exact va_Nw.of rfl h1
      case arrayOver t =>
        cases t <;> first | (cases h2; done) | skip
        case object C => exact va_AO.of h1
  have X : mm_X p s m #[Value.ref b] meth c mm_m_La_law B (fun k => if k = 1 then a1 else if k = 2 then a2 else b) (mm_ro L xs) D cA 0 := ⟨hx, hb, hml, hown, fun w hw => hts w (List.mem_filter.mp hw).1, hK, hE, by rw [hB], fun q => absurd q (by decide)⟩
  have J : mm_J B cA D mm_h0 s s.heap [] := ⟨(fun k q hq => by have h9 : ([] : va_W)[k]? = some q := hq; rw [List.getElem?_nil] at h9; cases h9), va_S.rf, fun a ha => absurd rfl ha⟩
  rw [lg_entry_eq]
  have HL := mm_L_entry (B := B) (ra := fun k => if k = 1 then a1 else if k = 2 then a2 else b) (nL := 4) (As := [.retAddr 0]) rfl (by decide)
  have key := mm_sim_ex (p := p) (l := l) (e := e) (R := room_1) (s := s) (m := m) (below := below) (meth := meth) (c := c) (Q := lw_Z below #[Value.ref b] s) (t0 := 0) (s0 := 0) (d := 9) (n := n) (r := .int 1) (hf := hf) (fun z As h r h1 Z q1 q2 => mm_met n 9 z As h r h1 Z q1 q2) X mm_d_La_law (by decide) (by decide) (by show mm_t hf - 0 ≤ 600000; omega) (by show mm_s hf - 0 ≤ 7302250; omega) ?_ n 0 _ [] mm_h0 s.heap [] _ hex J HL (Nat.le_refl _) (Nat.le_refl _)
  · exact key
  · intro pc len idx i ls S H locs hmem hrt J1
    have he := mm_d_La_law _ hmem
    unfold mm_rt at hrt
    split at hrt
    · rename_i x
      have hd : decode code pc = .ok (.ireturn, 1) := mm_dec he rfl
      rcases mm_if hrt with ⟨hk, hrt⟩ | ⟨-, hrt⟩
      · cases hrt
        refine va_forget (fun q hq => ?_) ?_
        · have : B < q.base := J1.2.1.2.2 q hq
          omega
        · refine W.widen (k := 600000) (n := 7302250) (by omega) (by omega) ?_
          exact lw_ret hx hb hr hlocks hd
      · cases hrt
    · rcases mm_if hrt with ⟨-, hrt⟩ | ⟨-, hrt⟩ <;> cases hrt
    · rcases mm_if hrt with ⟨-, hrt⟩ | ⟨-, hrt⟩ <;> cases hrt
    · cases hrt
end
section
/-! WEAKEST PRECONDITIONS over the small machine -/
def mm_le (f g : Nat → List Value → mm_H → Option (Value × mm_H)) : Prop := ∀ z As h x, f z As h = some x → g z As h = some x
theorem mm_ex_le {ms : List mm_M} {ro : mm_Ro} {f g : Nat → List Value → mm_H → Option (Value × mm_H)} {M : mm_M} (hfg : mm_le f g) : ∀ (k k' pc : Nat) (L S : List Value) (h : mm_H) (x : Value × mm_H), k ≤ k' → mm_ex ms ro f M k pc L S h = some x → mm_ex ms ro g M k' pc L S h = some x := by
  intro k
  induction k with
  | zero => intro k' pc L S h x _ hex; cases hex
  | succ k ih =>
    intro k' pc L S h x hk hex
    obtain ⟨k', rfl⟩ : ∃ q, k' = q + 1 := ⟨k' - 1, by omega⟩
    have hk1 : k ≤ k' := by omega
    unfold mm_ex at hex ⊢
    split at hex
    · cases hex
    · split at hex
      · exact hex
      · split at hex
        · split at hex
          · cases hex
          · rcases mm_if hex with ⟨hc, hex⟩ | ⟨-, hex⟩
            · rename_i hat _ hrt _ z hca _ Z hZ
              rw [if_pos hc]
              split at hex
              · cases hex
              · rename_i r1 h1 hcall
                rw [hfg _ _ _ _ hcall]
                exact ih _ _ _ _ _ _ hk1 hex
            · cases hex
        · split at hex
          · cases hex
          · exact ih _ _ _ _ _ _ hk1 hex
theorem mm_run_le {ms : List mm_M} {ro : mm_Ro} : ∀ (d n n' : Nat), n ≤ n' → mm_le (mm_run ms ro d n) (mm_run ms ro d n') := by
  intro d
  induction d with
  | zero => intro n n' _ z As h x hr; cases hr
  | succ d ih =>
    intro n n' hn z As h x hr
    unfold mm_run at hr ⊢
    split at hr
    · cases hr
    · rcases mm_if hr with ⟨hc, hr⟩ | ⟨-, hr⟩
      · rw [if_pos hc]
        exact mm_ex_le (ih n n' hn) _ _ _ _ _ _ _ hn hr
      · cases hr
/-- a method's code from a place on comes to an end with Q -/
def mm_go (ro : mm_Ro) (d : Nat) (M : mm_M) (pc : Nat) (L S : List Value) (h : mm_H) (Q : Value → mm_H → Prop) : Prop := ∃ n r h', mm_ex mm_ms ro (mm_run mm_ms ro d n) M n pc L S h = some (r, h') ∧ Q r h'
/-- a call of a method comes to an end with Q -/
def mm_ev (ro : mm_Ro) (d : Nat) (z : Nat) (As : List Value) (h : mm_H) (Q : Value → mm_H → Prop) : Prop := ∃ n r h', mm_run mm_ms ro d n z As h = some (r, h') ∧ Q r h'
theorem mm_ev_mono {ro : mm_Ro} {d z : Nat} {As : List Value} {h : mm_H} {Q Q' : Value → mm_H → Prop} (he : mm_ev ro d z As h Q) (hq : ∀ r h', Q r h' → Q' r h') : mm_ev ro d z As h Q' := by
  obtain ⟨n, r, h', h1, h2⟩ := he
  exact ⟨n, r, h', h1, hq r h' h2⟩
theorem mm_go_mono {ro : mm_Ro} {d pc : Nat} {M : mm_M} {L S : List Value} {h : mm_H} {Q Q' : Value → mm_H → Prop} (he : mm_go ro d M pc L S h Q) (hq : ∀ r h', Q r h' → Q' r h') : mm_go ro d M pc L S h Q' := by
  obtain ⟨n, r, h', h1, h2⟩ := he
  exact ⟨n, r, h', h1, hq r h' h2⟩
theorem mm_go_ret {ro : mm_Ro} {d pc : Nat} {M : mm_M} {L S : List Value} {h : mm_H} {Q : Value → mm_H → Prop} {x : Nat × Nat × Instr} {r : Value} (ha : mm_at M pc = some x) (hr : mm_rt M.2.2.2.1 x.2.2 S = some r) (hq : Q r h) : mm_go ro d M pc L S h Q := by
  refine ⟨1, r, h, ?_, hq⟩
  unfold mm_ex
  rw [ha]
  dsimp only
  rw [hr]
theorem mm_go_st {ro : mm_Ro} {d pc pc' : Nat} {M : mm_M} {L S L' S' : List Value} {h h' : mm_H} {Q : Value → mm_H → Prop} {x : Nat × Nat × Instr} (ha : mm_at M pc = some x) (hr : mm_rt M.2.2.2.1 x.2.2 S = none) (hc : mm_ca x.2.2 = none) (hs : mm_st ro x.2.2 pc L S h = some (pc', L', S', h')) (hg : mm_go ro d M pc' L' S' h' Q) : mm_go ro d M pc L S h Q := by
  obtain ⟨n, r, h1, h2, h3⟩ := hg
  refine ⟨n + 1, r, h1, ?_, h3⟩
  unfold mm_ex
  rw [ha]
  dsimp only
  rw [hr]
  dsimp only
  rw [hc]
  dsimp only
  rw [hs]
  exact mm_ex_le (mm_run_le d n (n + 1) (by omega)) _ _ _ _ _ _ _ (Nat.le_refl _) h2
theorem mm_go_call {ro : mm_Ro} {d pc z : Nat} {M Z : mm_M} {L S As S0 : List Value} {h : mm_H} {Q : Value → mm_H → Prop} {x : Nat × Nat × Instr} (ha : mm_at M pc = some x) (hr : mm_rt M.2.2.2.1 x.2.2 S = none) (hc : mm_ca x.2.2 = some z) (hZ : mm_ms[z]? = some Z) (hS : S = As.reverse ++ S0) (hn : As.length = mm_na' Z) (h8 : S0.length ≤ 8) (hc1 : S0.all mm_c1 = true) (hrc : mm_rc Z h As = true)
    (hg : mm_ev ro d z As h (fun r h1 => mm_go ro d M (pc + 3) L (if Z.2.2.2.1 = none then S0 else r :: S0) h1 Q)) : mm_go ro d M pc L S h Q := by
  obtain ⟨n1, r1, h1, hrun, n2, r, h2, hex, hq⟩ := hg
  refine ⟨n1 + n2 + 1, r, h2, ?_, hq⟩
  have e1 : (S.take (mm_na' Z)).reverse = As := by
    rw [hS, ← hn, ← List.length_reverse, List.take_left, List.reverse_reverse]
  have e2 : S.drop (mm_na' Z) = S0 := by
    rw [hS, ← hn, ← List.length_reverse, List.drop_left]
  have e3 : S.length = mm_na' Z + S0.length := by rw [hS, List.length_append, List.length_reverse, hn]
  unfold mm_ex
  rw [ha]
  dsimp only
  rw [hr]
  dsimp only
  rw [hc]
  dsimp only
  rw [hZ]
  dsimp only
  rw [e1, e2, if_pos ⟨by omega, by omega, hc1, hrc⟩, mm_run_le d n1 (n1 + n2 + 1) (by omega) _ _ _ _ hrun]
  exact mm_ex_le (mm_run_le d n2 (n1 + n2 + 1) (by omega)) _ _ _ _ _ _ _ (by omega) hex
theorem mm_ev_of {ro : mm_Ro} {d z : Nat} {Z : mm_M} {As : List Value} {h : mm_H} {Q : Value → mm_H → Prop} (hZ : mm_ms[z]? = some Z) (hn : As.length = mm_na' Z) (hl : As.length ≤ Z.2.2.1) (hc : As.all mm_c1 = true) (hg : mm_go ro d Z 0 (As ++ List.replicate (Z.2.2.1 - As.length) .null) [] h Q) : mm_ev ro (d + 1) z As h Q := by
  obtain ⟨n, r, h1, hex, hq⟩ := hg
  refine ⟨n, r, h1, ?_, hq⟩
  unfold mm_run
  rw [hZ]
  dsimp only
  rw [if_pos ⟨hn, hl, hc⟩]
  exact hex
/-- the code's places follow each other -/
def mm_lay : List mm_I → Bool
  | [] => true
  | e :: es => decide (0 < e.2.1) && (match es with
    | [] => true
    | e' :: _ => decide (e'.1 = e.1 + e.2.1)) && mm_lay es
theorem mm_lay_ms : mm_ms.all (fun M => mm_lay M.2.2.2.2.2.2) = true := by decide +kernel
theorem mm_lay_law : mm_lay mm_c_La_law = true := by decide +kernel
end
section
theorem mm_lay_lt : ∀ {l : List mm_I} {a : mm_I}, mm_lay (a :: l) = true → ∀ e ∈ l, a.1 < e.1 := by
  intro l
  induction l with
  | nil => intro a _ e he; cases he
  | cons b l ih =>
    intro a h e he
    have h1 : (0 < a.2.1 ∧ b.1 = a.1 + a.2.1) ∧ mm_lay (b :: l) = true := by
      rw [mm_lay, Bool.and_eq_true, Bool.and_eq_true] at h
      exact ⟨⟨of_decide_eq_true h.1.1, of_decide_eq_true h.1.2⟩, h.2⟩
    rcases List.mem_cons.mp he with rfl | he
    · omega
    · have := ih h1.2 e he
      omega
theorem mm_lay_tail {l : List mm_I} {a : mm_I} (h : mm_lay (a :: l) = true) : mm_lay l = true := by
  cases l with
  | nil => rfl
  | cons b l =>
    rw [mm_lay, Bool.and_eq_true] at h
    exact h.2
theorem mm_lay_find : ∀ {l : List mm_I}, mm_lay l = true → ∀ e ∈ l, l.find? (fun x => x.1 == e.1) = some e := by
  intro l
  induction l with
  | nil => intro _ e he; cases he
  | cons a l ih =>
    intro h e he
    rcases List.mem_cons.mp he with rfl | he
    · simp
    · have h1 := mm_lay_lt h e he
      rw [List.find?_cons_of_neg (by simp; omega)]
      exact ih (mm_lay_tail h) e he
/-- what is known of a method's code -/
def mm_okM (M : mm_M) : Prop := mm_lay M.2.2.2.2.2.2 = true ∧ ∀ e ∈ M.2.2.2.2.2.2, mm_ln e.2.2.2 = 0 ∨ mm_ln e.2.2.2 = e.2.1
theorem mm_hM (z : Nat) {M : mm_M} (hZ : mm_ms[z]? = some M) : mm_okM M := by
  have hm := List.mem_of_getElem? hZ
  refine ⟨List.all_eq_true.mp mm_lay_ms M hm, fun e he => ?_⟩
  have h1 := mm_ms_1 M hm e he
  simp only [mm_ok1, Bool.and_eq_true, Bool.or_eq_true, decide_eq_true_eq] at h1
  exact h1.1.2
theorem mm_hL : mm_okM mm_m_La_law := by
  refine ⟨mm_lay_law, fun e he => ?_⟩
  have h1 := mm_d_La_law e he
  simp only [mm_ok1, Bool.and_eq_true, Bool.or_eq_true, decide_eq_true_eq] at h1
  exact h1.1.2
/-- a comparison, over the integers -/
def mm_cp (c : Jvm.ClassFile.Cond) (x y : Int32) : Prop := match c with
  | .eq => x = y
  | .ne => ¬ x = y
  | .lt => x.toInt < y.toInt
  | .ge => y.toInt ≤ x.toInt
  | .gt => y.toInt < x.toInt
  | .le => x.toInt ≤ y.toInt
theorem mm_cp_iff {c : Jvm.ClassFile.Cond} {x y : Int32} : mm_cc c x y = true ↔ mm_cp c x y := by
  cases c
  · exact decide_eq_true_iff
  · exact decide_eq_true_iff
  · exact decide_eq_true_iff.trans Int32.lt_iff_toInt_lt
  · exact decide_eq_true_iff.trans Int32.le_iff_toInt_le
  · exact decide_eq_true_iff.trans Int32.lt_iff_toInt_lt
  · exact decide_eq_true_iff.trans Int32.le_iff_toInt_le
/-- the top n values, the lowest first, and the rest -/
def mm_tk : Nat → List Value → List Value → Option (List Value × List Value)
  | 0, S, acc => some (acc, S)
  | n + 1, S, acc => match S with
    | v :: S => mm_tk n S (v :: acc)
    | [] => none
theorem mm_tk_ok : ∀ (n : Nat) (S acc As S0 : List Value), mm_tk n S acc = some (As, S0) → ∃ Bs, S = Bs.reverse ++ S0 ∧ As = Bs ++ acc ∧ Bs.length = n := by
  intro n
  induction n with
  | zero => intro S acc As S0 h; cases h; exact ⟨[], rfl, rfl, rfl⟩
  | succ n ih =>
    intro S acc As S0 h
    cases S with
    | nil => cases h
    | cons v S =>
      obtain ⟨Bs, h1, h2, h3⟩ := ih S (v :: acc) As S0 h
      refine ⟨Bs ++ [v], ?_, ?_, ?_⟩
      · rw [h1, List.reverse_append]; rfl
      · rw [h2, List.append_assoc]; rfl
      · rw [List.length_append, h3]; rfl
/-- at most k values, each of one word -/
def mm_okr : Nat → List Value → Bool
  | _, [] => true
  | 0, _ :: _ => false
  | k + 1, v :: S => match v with
    | .int _ => mm_okr k S
    | .ref _ => mm_okr k S
    | .retAddr _ => mm_okr k S
    | _ => false
theorem mm_okr_ok : ∀ (k : Nat) (S : List Value), mm_okr k S = true → S.length ≤ k ∧ S.all mm_c1 = true := by
  intro k
  induction k with
  | zero =>
    intro S h
    cases S with
    | nil => exact ⟨Nat.le_refl _, rfl⟩
    | cons v S => cases h
  | succ k ih =>
    intro S h
    cases S with
    | nil => exact ⟨Nat.zero_le _, rfl⟩
    | cons v S =>
      cases v <;> first | (cases h; done) | skip
      all_goals
        have := ih S h
        exact ⟨Nat.succ_le_succ this.1, by rw [List.all_cons, this.2]; rfl⟩
def mm_rcp (Z : mm_M) (h : mm_H) (As : List Value) : Prop := match Z.2.2.2.2.1.2.2 with
  | true => True
  | false => match As with
    | .ref b :: _ => mm_k h b = Z.2.2.2.2.1.1 + 1
    | _ => False
theorem mm_rcp_ok {Z : mm_M} {h : mm_H} {As : List Value} (hr : mm_rcp Z h As) : mm_rc Z h As = true := by
  unfold mm_rcp at hr
  unfold mm_rc
  split at hr
  · rename_i e; rw [e]; rfl
  · rename_i e
    rw [e]
    split at hr
    · exact decide_eq_true hr
    · exact hr.elim
/-- a table of ways -/
def mm_tsw (x : Int) (P : Int → Prop) : Int → List Int → Prop
  | _, [] => True
  | v, o :: os => (x = v → P o) ∧ mm_tsw x P (v + 1) os
theorem mm_tsw_ok {x : Int} {P : Int → Prop} : ∀ (os : List Int) (v : Int), mm_tsw x P v os → ∀ (j : Nat) (o : Int), os[j]? = some o → x = v + j → P o := by
  intro os
  induction os with
  | nil => intro v _ j o h; simp at h
  | cons a os ih =>
    intro v h j o hj hx
    cases j with
    | zero => rw [List.getElem?_cons_zero] at hj; cases hj; exact h.1 (by simpa using hx)
    | succ j => rw [List.getElem?_cons_succ] at hj; exact ih (v + 1) h.2 j o hj (by rw [hx]; push_cast; omega)
def mm_lsw (x d : Int) (P : Int → Prop) : List (Int × Int) → Prop
  | [] => P d
  | q :: qs => (x = q.1 → P q.2) ∧ (¬ x = q.1 → mm_lsw x d P qs)
theorem mm_lsw_ok {x d : Int} {P : Int → Prop} : ∀ (qs : List (Int × Int)), mm_lsw x d P qs → P (Op.lookupswitch.offset qs d x) := by
  intro qs
  induction qs with
  | nil => intro h; exact h
  | cons q qs ih =>
    intro h
    obtain ⟨a, o⟩ := q
    unfold Op.lookupswitch.offset
    split
    · rename_i hq; exact h.1 (Eq.symm (by simpa using hq))
    · rename_i hq; exact ih (h.2 (fun z => hq (by simpa using z.symm)))
/-- does a stretch of code begin at a place -/
def mm_isp (sp : Nat) (es : List mm_I) : Bool := match es with
  | [] => false
  | e :: _ => Nat.beq e.1 sp
/-- WHAT MUST HOLD IN FRONT OF A STRETCH OF CODE for Q to hold at the end; where it comes to the place sp it is asked of what goes on there -/
def mm_wp (ro : mm_Ro) (d : Nat) (M : mm_M) (Q : Value → mm_H → Prop) (sp : Nat) : List mm_I → List Value → List Value → mm_H → Prop
  | [], _, _, _ => False
  | (pc, _, _, i) :: es, L, S, h => match i with
    | .iload k => match L[k]? with
      | some (.int x) => (bif mm_isp sp es then mm_go ro d M sp L (.int x :: S) h Q else mm_wp ro d M Q sp es L (.int x :: S) h)
      | _ => False
    | .iload_n k => match L[k.val]? with
      | some (.int x) => (bif mm_isp sp es then mm_go ro d M sp L (.int x :: S) h Q else mm_wp ro d M Q sp es L (.int x :: S) h)
      | _ => False
    | .aload k => match L[k]? with
      | some (.ref x) => (bif mm_isp sp es then mm_go ro d M sp L (.ref x :: S) h Q else mm_wp ro d M Q sp es L (.ref x :: S) h)
      | some (.retAddr x) => (bif mm_isp sp es then mm_go ro d M sp L (.retAddr x :: S) h Q else mm_wp ro d M Q sp es L (.retAddr x :: S) h)
      | _ => False
    | .aload_n k => match L[k.val]? with
      | some (.ref x) => (bif mm_isp sp es then mm_go ro d M sp L (.ref x :: S) h Q else mm_wp ro d M Q sp es L (.ref x :: S) h)
      | some (.retAddr x) => (bif mm_isp sp es then mm_go ro d M sp L (.retAddr x :: S) h Q else mm_wp ro d M Q sp es L (.retAddr x :: S) h)
      | _ => False
    | .istore k => match S with
      | .int x :: S => (bif mm_isp sp es then mm_go ro d M sp (L.set k (.int x)) S h Q else mm_wp ro d M Q sp es (L.set k (.int x)) S h)
      | _ => False
    | .istore_n k => match S with
      | .int x :: S => (bif mm_isp sp es then mm_go ro d M sp (L.set k.val (.int x)) S h Q else mm_wp ro d M Q sp es (L.set k.val (.int x)) S h)
      | _ => False
    | .astore k => match S with
      | .ref x :: S => (bif mm_isp sp es then mm_go ro d M sp (L.set k (.ref x)) S h Q else mm_wp ro d M Q sp es (L.set k (.ref x)) S h)
      | _ => False
    | .astore_n k => match S with
      | .ref x :: S => (bif mm_isp sp es then mm_go ro d M sp (L.set k.val (.ref x)) S h Q else mm_wp ro d M Q sp es (L.set k.val (.ref x)) S h)
      | _ => False
    | .iinc k n => match L[k]? with
      | some (.int x) => (bif mm_isp sp es then mm_go ro d M sp (L.set k (.int (x + Int32.ofInt n))) S h Q else mm_wp ro d M Q sp es (L.set k (.int (x + Int32.ofInt n))) S h)
      | _ => False
    | .iconst n => (bif mm_isp sp es then mm_go ro d M sp L (.int (Int32.ofInt n) :: S) h Q else mm_wp ro d M Q sp es L (.int (Int32.ofInt n) :: S) h)
    | .bipush n => (bif mm_isp sp es then mm_go ro d M sp L (.int (Int8.ofInt n).toInt32 :: S) h Q else mm_wp ro d M Q sp es L (.int (Int8.ofInt n).toInt32 :: S) h)
    | .sipush n => (bif mm_isp sp es then mm_go ro d M sp L (.int (Int16.ofInt n).toInt32 :: S) h Q else mm_wp ro d M Q sp es L (.int (Int16.ofInt n).toInt32 :: S) h)
    | .aconst_null => (bif mm_isp sp es then mm_go ro d M sp L (.ref 0 :: S) h Q else mm_wp ro d M Q sp es L (.ref 0 :: S) h)
    | .dup => match S with
      | .int x :: S => (bif mm_isp sp es then mm_go ro d M sp L (.int x :: .int x :: S) h Q else mm_wp ro d M Q sp es L (.int x :: .int x :: S) h)
      | .ref x :: S => (bif mm_isp sp es then mm_go ro d M sp L (.ref x :: .ref x :: S) h Q else mm_wp ro d M Q sp es L (.ref x :: .ref x :: S) h)
      | _ => False
    | .dup2 => match S with
      | .int x :: .ref y :: S => (bif mm_isp sp es then mm_go ro d M sp L (.int x :: .ref y :: .int x :: .ref y :: S) h Q else mm_wp ro d M Q sp es L (.int x :: .ref y :: .int x :: .ref y :: S) h)
      | _ => False
    | .pop => match S with
      | .int _ :: S => (bif mm_isp sp es then mm_go ro d M sp L S h Q else mm_wp ro d M Q sp es L S h)
      | .ref _ :: S => (bif mm_isp sp es then mm_go ro d M sp L S h Q else mm_wp ro d M Q sp es L S h)
      | _ => False
    | .iadd => match S with
      | .int y :: .int x :: S => (bif mm_isp sp es then mm_go ro d M sp L (.int (x + y) :: S) h Q else mm_wp ro d M Q sp es L (.int (x + y) :: S) h)
      | _ => False
    | .isub => match S with
      | .int y :: .int x :: S => (bif mm_isp sp es then mm_go ro d M sp L (.int (x - y) :: S) h Q else mm_wp ro d M Q sp es L (.int (x - y) :: S) h)
      | _ => False
    | .imul => match S with
      | .int y :: .int x :: S => (bif mm_isp sp es then mm_go ro d M sp L (.int (x * y) :: S) h Q else mm_wp ro d M Q sp es L (.int (x * y) :: S) h)
      | _ => False
    | .iand => match S with
      | .int y :: .int x :: S => (bif mm_isp sp es then mm_go ro d M sp L (.int (x &&& y) :: S) h Q else mm_wp ro d M Q sp es L (.int (x &&& y) :: S) h)
      | _ => False
    | .ior => match S with
      | .int y :: .int x :: S => (bif mm_isp sp es then mm_go ro d M sp L (.int (x ||| y) :: S) h Q else mm_wp ro d M Q sp es L (.int (x ||| y) :: S) h)
      | _ => False
    | .ixor => match S with
      | .int y :: .int x :: S => (bif mm_isp sp es then mm_go ro d M sp L (.int (x ^^^ y) :: S) h Q else mm_wp ro d M Q sp es L (.int (x ^^^ y) :: S) h)
      | _ => False
    | .ishl => match S with
      | .int y :: .int x :: S => (bif mm_isp sp es then mm_go ro d M sp L (.int (x <<< (y &&& 31)) :: S) h Q else mm_wp ro d M Q sp es L (.int (x <<< (y &&& 31)) :: S) h)
      | _ => False
    | .ishr => match S with
      | .int y :: .int x :: S => (bif mm_isp sp es then mm_go ro d M sp L (.int (x >>> (y &&& 31)) :: S) h Q else mm_wp ro d M Q sp es L (.int (x >>> (y &&& 31)) :: S) h)
      | _ => False
    | .goto off => mm_go ro d M (mm_tg pc off) L S h Q
    | .ifCond c off => match S with
      | .int x :: S => (mm_cp c x 0 → mm_go ro d M (mm_tg pc off) L S h Q) ∧ (¬ mm_cp c x 0 → (bif mm_isp sp es then mm_go ro d M sp L S h Q else mm_wp ro d M Q sp es L S h))
      | _ => False
    | .if_icmp c off => match S with
      | .int y :: .int x :: S => (mm_cp c x y → mm_go ro d M (mm_tg pc off) L S h Q) ∧ (¬ mm_cp c x y → (bif mm_isp sp es then mm_go ro d M sp L S h Q else mm_wp ro d M Q sp es L S h))
      | _ => False
    | .ifnull off => match S with
      | .ref x :: S => (x = 0 → mm_go ro d M (mm_tg pc off) L S h Q) ∧ (¬ x = 0 → (bif mm_isp sp es then mm_go ro d M sp L S h Q else mm_wp ro d M Q sp es L S h))
      | _ => False
    | .ifnonnull off => match S with
      | .ref x :: S => (¬ x = 0 → mm_go ro d M (mm_tg pc off) L S h Q) ∧ (x = 0 → (bif mm_isp sp es then mm_go ro d M sp L S h Q else mm_wp ro d M Q sp es L S h))
      | _ => False
    | .tableswitch df lo hi offs => match S with
      | .int x :: S => (x.toInt < lo ∨ hi < x.toInt → mm_go ro d M (mm_tg pc df) L S h Q) ∧ (hi - lo + 1).toNat ≤ offs.toList.length ∧ mm_tsw x.toInt (fun o => mm_go ro d M (mm_tg pc o) L S h Q) lo offs.toList
      | _ => False
    | .lookupswitch df ps => match S with
      | .int x :: S => mm_lsw x.toInt df (fun o => mm_go ro d M (mm_tg pc o) L S h Q) ps.toList
      | _ => False
    | .getfield f => match S with
      | .ref a :: S => match mm_fk f with
        | 2 => mm_k h a = f / 64 + 1 ∧ ∀ b, b = mm_r h f a → (bif mm_isp sp es then mm_go ro d M sp L (.ref b :: S) h Q else mm_wp ro d M Q sp es L (.ref b :: S) h)
        | _ => mm_k h a = f / 64 + 1 ∧ ∀ x, x = mm_i h f a → (bif mm_isp sp es then mm_go ro d M sp L (.int x :: S) h Q else mm_wp ro d M Q sp es L (.int x :: S) h)
      | _ => False
    | .putfield f => match S with
      | .int x :: .ref a :: S => match mm_fk f with
        | 0 => mm_k h a = f / 64 + 1 ∧ (bif mm_isp sp es then mm_go ro d M sp L S (mm_si h f a x) Q else mm_wp ro d M Q sp es L S (mm_si h f a x))
        | 1 => mm_k h a = f / 64 + 1 ∧ (x = 0 ∨ x = 1) ∧ (bif mm_isp sp es then mm_go ro d M sp L S (mm_si h f a x) Q else mm_wp ro d M Q sp es L S (mm_si h f a x))
        | _ => False
      | .ref x :: .ref a :: S => match mm_fk f with
        | 2 => mm_k h a = f / 64 + 1 ∧ (bif mm_isp sp es then mm_go ro d M sp L S (mm_sr h f a x) Q else mm_wp ro d M Q sp es L S (mm_sr h f a x))
        | _ => False
      | _ => False
    | .getstatic k => (bif mm_isp sp es then mm_go ro d M sp L (.retAddr k :: S) h Q else mm_wp ro d M Q sp es L (.retAddr k :: S) h)
    | .iaload => match S with
      | .int x :: .ref a :: S => (mm_k h a = 20 ∧ mm_in x (mm_n h a)) ∧ ∀ y, y = mm_a h a x.toNatClampNeg → (bif mm_isp sp es then mm_go ro d M sp L (.int y :: S) h Q else mm_wp ro d M Q sp es L (.int y :: S) h)
      | .int x :: .retAddr k :: S => mm_in x (ro k).1 ∧ ∀ y, y = (ro k).2 x.toNatClampNeg → (bif mm_isp sp es then mm_go ro d M sp L (.int y :: S) h Q else mm_wp ro d M Q sp es L (.int y :: S) h)
      | _ => False
    | .baload => match S with
      | .int x :: .ref a :: S => (mm_k h a = 21 ∧ mm_in x (mm_n h a)) ∧ ∀ y, y = mm_a h a x.toNatClampNeg → (bif mm_isp sp es then mm_go ro d M sp L (.int y :: S) h Q else mm_wp ro d M Q sp es L (.int y :: S) h)
      | _ => False
    | .aaload => match S with
      | .int x :: .ref a :: S => ((22 ≤ mm_k h a ∧ mm_k h a < 26) ∧ mm_in x (mm_n h a)) ∧ ∀ b, b = mm_q h a x.toNatClampNeg → (bif mm_isp sp es then mm_go ro d M sp L (.ref b :: S) h Q else mm_wp ro d M Q sp es L (.ref b :: S) h)
      | _ => False
    | .iastore => match S with
      | .int v :: .int x :: .ref a :: S => (mm_k h a = 20 ∧ mm_in x (mm_n h a)) ∧ (bif mm_isp sp es then mm_go ro d M sp L S (mm_sa h a x.toNatClampNeg v) Q else mm_wp ro d M Q sp es L S (mm_sa h a x.toNatClampNeg v))
      | _ => False
    | .bastore => match S with
      | .int v :: .int x :: .ref a :: S => (mm_k h a = 21 ∧ mm_in x (mm_n h a) ∧ (v = 0 ∨ v = 1)) ∧ (bif mm_isp sp es then mm_go ro d M sp L S (mm_sa h a x.toNatClampNeg v) Q else mm_wp ro d M Q sp es L S (mm_sa h a x.toNatClampNeg v))
      | _ => False
    | .aastore => match S with
      | .ref v :: .int x :: .ref a :: S => ((22 ≤ mm_k h a ∧ mm_k h a < 26) ∧ mm_in x (mm_n h a) ∧ mm_k h v = mm_ac.getD (mm_k h a - 20) 0 + 1) ∧ (bif mm_isp sp es then mm_go ro d M sp L S (mm_sq h a x.toNatClampNeg v) Q else mm_wp ro d M Q sp es L S (mm_sq h a x.toNatClampNeg v))
      | _ => False
    | .arraylength => match S with
      | .ref a :: S => (20 ≤ mm_k h a ∧ mm_k h a < 26) ∧ (bif mm_isp sp es then mm_go ro d M sp L (.int (Int32.ofNat (mm_n h a)) :: S) h Q else mm_wp ro d M Q sp es L (.int (Int32.ofNat (mm_n h a)) :: S) h)
      | .retAddr k :: S => (bif mm_isp sp es then mm_go ro d M sp L (.int (Int32.ofNat (ro k).1) :: S) h Q else mm_wp ro d M Q sp es L (.int (Int32.ofNat (ro k).1) :: S) h)
      | _ => False
    | .newarray t => match S with
      | .int x :: S => (¬ x < 0 ∧ x.toNatClampNeg ≤ 100000 ∧ (t = .int ∨ t = .boolean)) ∧ (bif mm_isp sp es then mm_go ro d M sp L (.ref (mm_t h + 1) :: S) (mm_new h (if t = .int then 20 else 21) x.toNatClampNeg) Q else mm_wp ro d M Q sp es L (.ref (mm_t h + 1) :: S) (mm_new h (if t = .int then 20 else 21) x.toNatClampNeg))
      | _ => False
    | .anewarray t => match S with
      | .int x :: S => (¬ x < 0 ∧ x.toNatClampNeg ≤ 100000 ∧ 2 ≤ t ∧ t < 6) ∧ (bif mm_isp sp es then mm_go ro d M sp L (.ref (mm_t h + 1) :: S) (mm_new h (20 + t) x.toNatClampNeg) Q else mm_wp ro d M Q sp es L (.ref (mm_t h + 1) :: S) (mm_new h (20 + t) x.toNatClampNeg))
      | _ => False
    | .new c => c < 10 ∧ (bif mm_isp sp es then mm_go ro d M sp L (.ref (mm_t h + 1) :: S) (mm_new h (c + 1) (mm_fks.getD c []).length) Q else mm_wp ro d M Q sp es L (.ref (mm_t h + 1) :: S) (mm_new h (c + 1) (mm_fks.getD c []).length))
    | .invokespecial z => match decide (z < 1000) with
      | true => match mm_ms[z]? with
        | some Z => match mm_tk (mm_na' Z) S [] with
          | some (As, S0) => (mm_okr 8 S0 = true ∧ mm_rcp Z h As) ∧ mm_ev ro d z As h (fun r h1 => (bif mm_isp sp es then mm_go ro d M sp L (match Z.2.2.2.1 with | none => S0 | some _ => r :: S0) h1 Q else mm_wp ro d M Q sp es L (match Z.2.2.2.1 with | none => S0 | some _ => r :: S0) h1))
          | none => False
        | none => False
      | false => match S with
        | .ref a :: S => (z = 1000 ∧ mm_k h a ≠ 0 ∧ mm_k h a < 20 ∧ S.length ≤ 8) ∧ (bif mm_isp sp es then mm_go ro d M sp L S h Q else mm_wp ro d M Q sp es L S h)
        | _ => False
    | .invokestatic z => match decide (z < 1000) with
      | true => match mm_ms[z]? with
        | some Z => match mm_tk (mm_na' Z) S [] with
          | some (As, S0) => (mm_okr 8 S0 = true ∧ mm_rcp Z h As) ∧ mm_ev ro d z As h (fun r h1 => (bif mm_isp sp es then mm_go ro d M sp L (match Z.2.2.2.1 with | none => S0 | some _ => r :: S0) h1 Q else mm_wp ro d M Q sp es L (match Z.2.2.2.1 with | none => S0 | some _ => r :: S0) h1))
          | none => False
        | none => False
      | false => match S with
        | .int n :: .int dp :: .ref b :: .int s9 :: .ref a :: S => (z = 1001 ∧ mm_k h a = 20 ∧ mm_k h b = 20 ∧ ¬ s9 < 0 ∧ ¬ dp < 0 ∧ ¬ n < 0 ∧ s9.toNatClampNeg + n.toNatClampNeg ≤ mm_n h a ∧ dp.toNatClampNeg + n.toNatClampNeg ≤ mm_n h b ∧ S.length ≤ 8) ∧ (bif mm_isp sp es then mm_go ro d M sp L S (mm_sc h a b s9.toNatClampNeg dp.toNatClampNeg n.toNatClampNeg) Q else mm_wp ro d M Q sp es L S (mm_sc h a b s9.toNatClampNeg dp.toNatClampNeg n.toNatClampNeg))
        | .int y :: .int x :: S => S.length ≤ 8 ∧ (match z with
          | 1002 => (bif mm_isp sp es then mm_go ro d M sp L (.int (if x < y then y else x) :: S) h Q else mm_wp ro d M Q sp es L (.int (if x < y then y else x) :: S) h)
          | 1003 => (bif mm_isp sp es then mm_go ro d M sp L (.int (if y < x then y else x) :: S) h Q else mm_wp ro d M Q sp es L (.int (if y < x then y else x) :: S) h)
          | _ => False)
        | _ => False
    | .invokevirtual z => match mm_ms[z]? with
      | some Z => match mm_tk (mm_na' Z) S [] with
        | some (As, S0) => (mm_okr 8 S0 = true ∧ mm_rcp Z h As) ∧ mm_ev ro d z As h (fun r h1 => (bif mm_isp sp es then mm_go ro d M sp L (match Z.2.2.2.1 with | none => S0 | some _ => r :: S0) h1 Q else mm_wp ro d M Q sp es L (match Z.2.2.2.1 with | none => S0 | some _ => r :: S0) h1))
        | none => False
      | none => False
    | .ireturn => match S with
      | [.int x] => match M.2.2.2.1 with
        | some .int => Q (.int x) h
        | some .boolean => (x = 0 ∨ x = 1) ∧ Q (.int x) h
        | _ => False
      | _ => False
    | .areturn => match S with
      | [.ref a] => match M.2.2.2.1 with
        | some (.object _) => Q (.ref a) h
        | _ => False
      | _ => False
    | .return_ => match S with
      | [] => match M.2.2.2.1 with
        | none => Q .null h
        | _ => False
      | _ => False
    | _ => False
end
section
/-- a stretch of a method's code -/
def mm_sf (M : mm_M) (es : List mm_I) : Prop := mm_lay es = true ∧ ∀ e ∈ es, mm_at M e.1 = some e.2 ∧ (mm_ln e.2.2.2 = 0 ∨ mm_ln e.2.2.2 = e.2.1)
theorem mm_sf_tail {M : mm_M} {e : mm_I} {es : List mm_I} (h : mm_sf M (e :: es)) : mm_sf M es := ⟨mm_lay_tail h.1, fun x hx => h.2 x (List.mem_cons_of_mem _ hx)⟩
def mm_pc (es : List mm_I) : Nat := match es with
  | [] => 0
  | e :: _ => e.1
/-- what goes on behind an instruction -/
def mm_on (ro : mm_Ro) (d : Nat) (M : mm_M) (Q : Value → mm_H → Prop) (sp : Nat) (es : List mm_I) (L S : List Value) (h : mm_H) : Prop := bif mm_isp sp es then mm_go ro d M sp L S h Q else mm_wp ro d M Q sp es L S h
theorem mm_nx {ro : mm_Ro} {d : Nat} {M : mm_M} {Q : Value → mm_H → Prop} {sp pc len idx n : Nat} {i : Instr} {es : List mm_I} {L S : List Value} {h : mm_H} (hf : mm_sf M ((pc, len, idx, i) :: es)) (hn : mm_ln i = n + 1) (hw : mm_on ro d M Q sp es L S h) : mm_pc es = pc + (n + 1) := by
  cases es with
  | nil => exact False.elim hw
  | cons b es =>
    have h1 := hf.1
    rw [mm_lay, Bool.and_eq_true, Bool.and_eq_true] at h1
    have h2 : b.1 = pc + len := of_decide_eq_true h1.1.2
    have h3 := (hf.2 (pc, len, idx, i) List.mem_cons_self).2
    have h4 : len = n + 1 := by
      rcases h3 with h3 | h3
      · have : mm_ln i = 0 := h3
        omega
      · have : mm_ln i = len := h3
        omega
    show b.1 = _
    rw [h2, h4]
theorem mm_on_go {ro : mm_Ro} {d : Nat} {M : mm_M} {Q : Value → mm_H → Prop} {sp : Nat} {es : List mm_I} {L S : List Value} {h : mm_H} (ih : mm_wp ro d M Q sp es L S h → mm_go ro d M (mm_pc es) L S h Q) (hw : mm_on ro d M Q sp es L S h) : mm_go ro d M (mm_pc es) L S h Q := by
  unfold mm_on at hw
  cases hi : mm_isp sp es with
  | false => rw [hi] at hw; exact ih hw
  | true =>
    rw [hi] at hw
    cases es with
    | nil => cases hi
    | cons b es =>
      have : b.1 = sp := Nat.eq_of_beq_eq_true hi
      show mm_go ro d M b.1 L S h Q
      rw [this]
      exact hw
theorem mm_vin {x : Int32} {lo hi : Int} {offs : List Int} (h1 : ¬ (x.toInt < lo ∨ hi < x.toInt)) (h2 : (hi - lo + 1).toNat ≤ offs.length) : ∃ o, offs[(x.toInt - lo).toNat]? = some o := by
  have : (x.toInt - lo).toNat < offs.length := by omega
  exact ⟨offs[(x.toInt - lo).toNat], List.getElem?_eq_getElem this⟩
theorem mm_st_mm {ro : mm_Ro} {z pc : Nat} {L S0 : List Value} {h : mm_H} {y x : Int32} (hne : ∀ (b : Addr) (sp : Int32) (a : Addr) (S : List Value), S0 = Value.ref b :: Value.int sp :: Value.ref a :: S → False) : mm_st ro (.invokestatic z) pc L (.int y :: .int x :: S0) h = (if z = 1002 ∧ S0.length ≤ 8 then some (pc + 3, L, .int (if x < y then y else x) :: S0, h) else if z = 1003 ∧ S0.length ≤ 8 then some (pc + 3, L, .int (if y < x then y else x) :: S0, h) else none) := by
  cases S0 with
  | nil => rfl
  | cons v1 S1 =>
    cases v1 <;> first | rfl | skip
    cases S1 with
    | nil => rfl
    | cons v2 S2 =>
      cases v2 <;> first | rfl | skip
      cases S2 with
      | nil => rfl
      | cons v3 S3 =>
        cases v3 <;> first | rfl | exact (hne _ _ _ _ rfl).elim
set_option maxHeartbeats 4000000 in
theorem mm_wp_ok {ro : mm_Ro} {d : Nat} {M : mm_M} {Q : Value → mm_H → Prop} {sp : Nat} : ∀ (es : List mm_I) (L S : List Value) (h : mm_H), mm_sf M es → mm_wp ro d M Q sp es L S h → mm_go ro d M (mm_pc es) L S h Q := by
  intro es
  induction es with
  | nil => intro L S h _ hw; exact hw.elim
  | cons e es ih =>
    obtain ⟨pc, len, idx, i⟩ := e
    intro L S h hf hw
    have ht := mm_sf_tail hf
    have hat : mm_at M pc = some (len, idx, i) := (hf.2 (pc, len, idx, i) List.mem_cons_self).1
    have st : ∀ {n : Nat} {L' S' : List Value} {h' : mm_H}, mm_rt M.2.2.2.1 i S = none → mm_ca i = none → mm_ln i = n + 1 → mm_on ro d M Q sp es L' S' h' → mm_st ro i pc L S h = some (pc + (n + 1), L', S', h') → mm_go ro d M pc L S h Q := by
      intro n L' S' h' r1 r2 r3 r4 r5
      refine mm_go_st hat r1 r2 r5 ?_
      rw [← mm_nx hf r3 r4]
      exact mm_on_go (ih _ _ _ ht) r4
    have jp : ∀ {pc' : Nat} {L' S' : List Value} {h' : mm_H}, mm_rt M.2.2.2.1 i S = none → mm_ca i = none → mm_go ro d M pc' L' S' h' Q → mm_st ro i pc L S h = some (pc', L', S', h') → mm_go ro d M pc L S h Q := fun r1 r2 r4 r5 => mm_go_st hat r1 r2 r5 r4
    have cl : ∀ {z : Nat} {Z : mm_M} {As S0 : List Value}, mm_rt M.2.2.2.1 i S = none → mm_ca i = some z → mm_ln i = 3 → mm_ms[z]? = some Z → mm_tk (mm_na' Z) S [] = some (As, S0) → mm_okr 8 S0 = true → mm_rcp Z h As → mm_ev ro d z As h (fun r h1 => mm_on ro d M Q sp es L (match Z.2.2.2.1 with | none => S0 | some _ => r :: S0) h1) → mm_go ro d M pc L S h Q := by
      intro z Z As S0 r1 r2 r3 r4 r5 r6 r7 r8
      obtain ⟨Bs, q1, q2, q3⟩ := mm_tk_ok _ _ _ _ _ r5
      rw [List.append_nil] at q2
      subst q2
      have q4 := mm_okr_ok _ _ r6
      refine mm_go_call hat r1 r2 r4 q1 q3 q4.1 q4.2 (mm_rcp_ok r7) (mm_ev_mono r8 (fun r h1 hw1 => ?_))
      have e1 := mm_nx (n := 2) hf r3 hw1
      have e2 : (if Z.2.2.2.1 = none then S0 else r :: S0) = (match Z.2.2.2.1 with | none => S0 | some _ => r :: S0) := by
        cases Z.2.2.2.1 <;> rfl
      rw [e2, ← e1]
      exact mm_on_go (ih _ _ _ ht) hw1
    show mm_go ro d M pc L S h Q
    cases i
    case goto off => exact jp rfl rfl hw rfl
    case ifCond c off =>
      unfold mm_wp at hw
      dsimp only at hw
      split at hw
      · rename_i x S0
        by_cases hc : mm_cp c x 0
        · exact jp rfl rfl (hw.1 hc) (by show some ((if mm_cc c x 0 = true then _ else _), _) = _; rw [if_pos (mm_cp_iff.mpr hc)])
        · exact st rfl rfl (n := 2) rfl (hw.2 hc) (by show some ((if mm_cc c x 0 = true then _ else _), _) = _; rw [if_neg (fun z => hc (mm_cp_iff.mp z))])
      · exact hw.elim
    case if_icmp c off =>
      unfold mm_wp at hw
      dsimp only at hw
      split at hw
      · rename_i y x S0
        by_cases hc : mm_cp c x y
        · exact jp rfl rfl (hw.1 hc) (by show some ((if mm_cc c x y = true then _ else _), _) = _; rw [if_pos (mm_cp_iff.mpr hc)])
        · exact st rfl rfl (n := 2) rfl (hw.2 hc) (by show some ((if mm_cc c x y = true then _ else _), _) = _; rw [if_neg (fun z => hc (mm_cp_iff.mp z))])
      · exact hw.elim
    case ifnull off =>
      unfold mm_wp at hw
      dsimp only at hw
      split at hw
      · rename_i x S0
        by_cases hc : x = 0
        · exact jp rfl rfl (hw.1 hc) (by show some ((if x = 0 then _ else _), _) = _; rw [if_pos hc])
        · exact st rfl rfl (n := 2) rfl (hw.2 hc) (by show some ((if x = 0 then _ else _), _) = _; rw [if_neg hc])
      · exact hw.elim
    case ifnonnull off =>
      unfold mm_wp at hw
      dsimp only at hw
      split at hw
      · rename_i x S0
        by_cases hc : x = 0
        · exact st rfl rfl (n := 2) rfl (hw.2 hc) (by show some ((if x = 0 then _ else _), _) = _; rw [if_pos hc])
        · exact jp rfl rfl (hw.1 hc) (by show some ((if x = 0 then _ else _), _) = _; rw [if_neg hc])
      · exact hw.elim
    case tableswitch df lo hi offs =>
      unfold mm_wp at hw
      dsimp only at hw
      split at hw
      · rename_i x S0
        by_cases hc : x.toInt < lo ∨ hi < x.toInt
        · exact jp rfl rfl (hw.1 hc) (by show (if _ then _ else _) = _; rw [if_pos hc])
        · obtain ⟨o, ho⟩ := mm_vin hc hw.2.1
          have hp := mm_tsw_ok _ _ hw.2.2 _ o ho (by omega)
          refine jp rfl rfl hp ?_
          show (if _ then _ else _) = _
          rw [if_neg hc, ← Array.getElem?_toList, ho]
      · exact hw.elim
    case lookupswitch df ps =>
      unfold mm_wp at hw
      dsimp only at hw
      split at hw
      · exact jp rfl rfl (mm_lsw_ok _ hw) rfl
      · exact hw.elim
    case invokevirtual z =>
      unfold mm_wp at hw
      dsimp only at hw
      split at hw
      · split at hw
        · rename_i h1 _ As S0 h2
          exact cl rfl rfl rfl h1 h2 hw.1.1 hw.1.2 hw.2
        · exact hw.elim
      · exact hw.elim
    case invokespecial z =>
      unfold mm_wp at hw
      dsimp only at hw
      split at hw
      · rename_i hz
        have hz := of_decide_eq_true hz
        split at hw
        · split at hw
          · rename_i h1 _ As S0 h2
            exact cl rfl (by show (if z < 1000 then some z else none) = _; rw [if_pos hz]) rfl h1 h2 hw.1.1 hw.1.2 hw.2
          · exact hw.elim
        · exact hw.elim
      · rename_i hz
        have hz := of_decide_eq_false hz
        split at hw
        · exact st rfl (by show (if z < 1000 then some z else none) = _; rw [if_neg hz]) (n := 2) rfl hw.2 (by show (if _ then _ else _) = _; rw [if_pos hw.1])
        · exact hw.elim
    case invokestatic z =>
      unfold mm_wp at hw
      dsimp only at hw
      split at hw
      · rename_i hz
        have hz := of_decide_eq_true hz
        split at hw
        · split at hw
          · rename_i h1 _ As S0 h2
            exact cl rfl (by show (if z < 1000 then some z else none) = _; rw [if_pos hz]) rfl h1 h2 hw.1.1 hw.1.2 hw.2
          · exact hw.elim
        · exact hw.elim
      · rename_i hz
        have hz := of_decide_eq_false hz
        have hcn : mm_ca (.invokestatic z) = none := by show (if z < 1000 then some z else none) = _; rw [if_neg hz]
        split at hw
        · exact st rfl hcn (n := 2) rfl hw.2 (by show (if _ then _ else _) = _; rw [if_pos hw.1])
        · rename_i y x S0 hne
          obtain ⟨hw1, hw2⟩ := hw
          split at hw2
          · refine st rfl hcn (n := 2) rfl hw2 ?_
            rw [mm_st_mm hne, if_pos ⟨rfl, hw1⟩]
          · refine st rfl hcn (n := 2) rfl hw2 ?_
            rw [mm_st_mm hne, if_neg (fun z => by cases z.1), if_pos ⟨rfl, hw1⟩]
          · exact hw2.elim
        · exact hw.elim
    case ireturn =>
      unfold mm_wp at hw
      dsimp only at hw
      split at hw
      · split at hw
        · rename_i hr
          exact mm_go_ret hat (by show (if _ then _ else _) = _; rw [if_pos (Or.inl hr)]) hw
        · rename_i hr
          exact mm_go_ret hat (by show (if _ then _ else _) = _; rw [if_pos (Or.inr ⟨hr, hw.1⟩)]) hw.2
        · exact hw.elim
      · exact hw.elim
    case areturn =>
      unfold mm_wp at hw
      dsimp only at hw
      split at hw
      · split at hw
        · rename_i hr
          exact mm_go_ret hat (by show (if _ then _ else _) = _; rw [hr, if_neg (fun z => by rcases z with z | z | z <;> cases z)]) hw
        · exact hw.elim
      · exact hw.elim
    case return_ =>
      unfold mm_wp at hw
      dsimp only at hw
      split at hw
      · split at hw
        · rename_i hr
          exact mm_go_ret hat (by show (if _ then _ else _) = _; rw [if_pos hr]) hw
        · exact hw.elim
      · exact hw.elim
    case putfield f =>
      unfold mm_wp at hw
      dsimp only at hw
      split at hw
      · split at hw
        · rename_i hk
          exact st rfl rfl (n := 2) rfl hw.2 (by show (if _ then _ else _) = _; rw [if_pos ⟨hw.1, Or.inl hk⟩])
        · rename_i hk
          exact st rfl rfl (n := 2) rfl hw.2.2 (by show (if _ then _ else _) = _; rw [if_pos ⟨hw.1, Or.inr ⟨hk, hw.2.1⟩⟩])
        · exact hw.elim
      · split at hw
        · rename_i hk
          exact st rfl rfl (n := 2) rfl hw.2 (by show (if _ then _ else _) = _; rw [if_pos ⟨hw.1, hk⟩])
        · exact hw.elim
      · exact hw.elim
    case new c =>
      unfold mm_wp at hw
      exact st rfl rfl (n := 2) rfl hw.2 (by show (if _ then _ else _) = _; rw [if_pos hw.1])
    case getstatic k => exact st rfl rfl (n := 2) rfl hw rfl
    case newarray t =>
      unfold mm_wp at hw
      dsimp only at hw
      split at hw
      · exact st rfl rfl (n := 1) rfl hw.2 (by show (if _ then _ else _) = _; rw [if_pos hw.1])
      · exact hw.elim
    case anewarray t =>
      unfold mm_wp at hw
      dsimp only at hw
      split at hw
      · exact st rfl rfl (n := 2) rfl hw.2 (by show (if _ then _ else _) = _; rw [if_pos hw.1])
      · exact hw.elim
    case iload k =>
      unfold mm_wp at hw
      dsimp only at hw
      split at hw
      · rename_i hk
        exact st rfl rfl (n := 1) rfl hw (by unfold mm_st; dsimp only; rw [hk])
      · exact hw.elim
    case iload_n k =>
      unfold mm_wp at hw
      dsimp only at hw
      split at hw
      · rename_i hk
        exact st rfl rfl (n := 0) rfl hw (by unfold mm_st; dsimp only; rw [hk])
      · exact hw.elim
    case aload k =>
      unfold mm_wp at hw
      dsimp only at hw
      split at hw
      · rename_i hk
        exact st rfl rfl (n := 1) rfl hw (by unfold mm_st; dsimp only; rw [hk])
      · rename_i hk
        exact st rfl rfl (n := 1) rfl hw (by unfold mm_st; dsimp only; rw [hk])
      · exact hw.elim
    case aload_n k =>
      unfold mm_wp at hw
      dsimp only at hw
      split at hw
      · rename_i hk
        exact st rfl rfl (n := 0) rfl hw (by unfold mm_st; dsimp only; rw [hk])
      · rename_i hk
        exact st rfl rfl (n := 0) rfl hw (by unfold mm_st; dsimp only; rw [hk])
      · exact hw.elim
    case iinc k n =>
      unfold mm_wp at hw
      dsimp only at hw
      split at hw
      · rename_i hk
        exact st rfl rfl (n := 2) rfl hw (by unfold mm_st; dsimp only; rw [hk])
      · exact hw.elim
    case istore k =>
      unfold mm_wp at hw
      dsimp only at hw
      split at hw
      · exact st rfl rfl (n := 1) rfl hw rfl
      · exact hw.elim
    case istore_n k =>
      unfold mm_wp at hw
      dsimp only at hw
      split at hw
      · exact st rfl rfl (n := 0) rfl hw rfl
      · exact hw.elim
    case astore k =>
      unfold mm_wp at hw
      dsimp only at hw
      split at hw
      · exact st rfl rfl (n := 1) rfl hw rfl
      · exact hw.elim
    case astore_n k =>
      unfold mm_wp at hw
      dsimp only at hw
      split at hw
      · exact st rfl rfl (n := 0) rfl hw rfl
      · exact hw.elim
    case iadd =>
      unfold mm_wp at hw
      dsimp only at hw
      split at hw
      · exact st rfl rfl (n := 0) rfl hw rfl
      · exact hw.elim
    case isub =>
      unfold mm_wp at hw
      dsimp only at hw
      split at hw
      · exact st rfl rfl (n := 0) rfl hw rfl
      · exact hw.elim
    case imul =>
      unfold mm_wp at hw
      dsimp only at hw
      split at hw
      · exact st rfl rfl (n := 0) rfl hw rfl
      · exact hw.elim
    case iand =>
      unfold mm_wp at hw
      dsimp only at hw
      split at hw
      · exact st rfl rfl (n := 0) rfl hw rfl
      · exact hw.elim
    case ior =>
      unfold mm_wp at hw
      dsimp only at hw
      split at hw
      · exact st rfl rfl (n := 0) rfl hw rfl
      · exact hw.elim
    case ixor =>
      unfold mm_wp at hw
      dsimp only at hw
      split at hw
      · exact st rfl rfl (n := 0) rfl hw rfl
      · exact hw.elim
    case ishl =>
      unfold mm_wp at hw
      dsimp only at hw
      split at hw
      · exact st rfl rfl (n := 0) rfl hw rfl
      · exact hw.elim
    case ishr =>
      unfold mm_wp at hw
      dsimp only at hw
      split at hw
      · exact st rfl rfl (n := 0) rfl hw rfl
      · exact hw.elim
    case dup2 =>
      unfold mm_wp at hw
      dsimp only at hw
      split at hw
      · exact st rfl rfl (n := 0) rfl hw rfl
      · exact hw.elim
    case dup =>
      unfold mm_wp at hw
      dsimp only at hw
      split at hw
      · exact st rfl rfl (n := 0) rfl hw rfl
      · exact st rfl rfl (n := 0) rfl hw rfl
      · exact hw.elim
    case pop =>
      unfold mm_wp at hw
      dsimp only at hw
      split at hw
      · exact st rfl rfl (n := 0) rfl hw rfl
      · exact st rfl rfl (n := 0) rfl hw rfl
      · exact hw.elim
    case iconst n => exact st rfl rfl (n := 0) rfl hw rfl
    case bipush n => exact st rfl rfl (n := 1) rfl hw rfl
    case sipush n => exact st rfl rfl (n := 2) rfl hw rfl
    case aconst_null => exact st rfl rfl (n := 0) rfl hw rfl
    case getfield f =>
      unfold mm_wp at hw
      dsimp only at hw
      split at hw
      · split at hw
        · rename_i hk
          exact st rfl rfl (n := 2) rfl (hw.2 _ rfl) (by show (if _ then _ else _) = _; rw [if_pos hw.1]; unfold mm_gv; rw [if_pos hk])
        · rename_i hk
          exact st rfl rfl (n := 2) rfl (hw.2 _ rfl) (by show (if _ then _ else _) = _; rw [if_pos hw.1]; unfold mm_gv; rw [if_neg hk])
      · exact hw.elim
    case iaload =>
      unfold mm_wp at hw
      dsimp only at hw
      split at hw
      · exact st rfl rfl (n := 0) rfl (hw.2 _ rfl) (by show (if _ then _ else _) = _; rw [if_pos hw.1])
      · exact st rfl rfl (n := 0) rfl (hw.2 _ rfl) (by show (if _ then _ else _) = _; rw [if_pos hw.1])
      · exact hw.elim
    case baload =>
      unfold mm_wp at hw
      dsimp only at hw
      split at hw
      · exact st rfl rfl (n := 0) rfl (hw.2 _ rfl) (by show (if _ then _ else _) = _; rw [if_pos hw.1])
      · exact hw.elim
    case aaload =>
      unfold mm_wp at hw
      dsimp only at hw
      split at hw
      · exact st rfl rfl (n := 0) rfl (hw.2 _ rfl) (by show (if _ then _ else _) = _; rw [if_pos hw.1])
      · exact hw.elim
    case iastore =>
      unfold mm_wp at hw
      dsimp only at hw
      split at hw
      · exact st rfl rfl (n := 0) rfl hw.2 (by show (if _ then _ else _) = _; rw [if_pos hw.1])
      · exact hw.elim
    case bastore =>
      unfold mm_wp at hw
      dsimp only at hw
      split at hw
      · exact st rfl rfl (n := 0) rfl hw.2 (by show (if _ then _ else _) = _; rw [if_pos hw.1])
      · exact hw.elim
    case aastore =>
      unfold mm_wp at hw
      dsimp only at hw
      split at hw
      · exact st rfl rfl (n := 0) rfl hw.2 (by show (if _ then _ else _) = _; rw [if_pos hw.1])
      · exact hw.elim
    case arraylength =>
      unfold mm_wp at hw
      dsimp only at hw
      split at hw
      · exact st rfl rfl (n := 0) rfl hw.2 (by show (if _ then _ else _) = _; rw [if_pos hw.1])
      · exact st rfl rfl (n := 0) rfl hw rfl
      · exact hw.elim
    all_goals exact hw.elim
theorem mm_at_code {M : mm_M} (hM : mm_okM M) {e : mm_I} (he : e ∈ M.2.2.2.2.2.2) : mm_at M e.1 = some e.2 := by
  unfold mm_at
  rw [mm_lay_find hM.1 e he]
  rfl
def mm_from (M : mm_M) (pc : Nat) : List mm_I := M.2.2.2.2.2.2.dropWhile (fun e => !(e.1 == pc))
theorem mm_lay_drop {f : mm_I → Bool} : ∀ {l : List mm_I}, mm_lay l = true → mm_lay (l.dropWhile f) = true := by
  intro l
  induction l with
  | nil => intro _; rfl
  | cons a l ih =>
    intro h
    rw [List.dropWhile_cons]
    split
    · exact ih (mm_lay_tail h)
    · exact h
theorem mm_go_at {ro : mm_Ro} {d : Nat} {M : mm_M} {Q : Value → mm_H → Prop} {pc : Nat} {L S : List Value} {h : mm_H} (sp : Nat) (hM : mm_okM M) (hw : mm_wp ro d M Q sp (mm_from M pc) L S h) : mm_go ro d M pc L S h Q := by
  have h1 : mm_sf M (mm_from M pc) := ⟨mm_lay_drop hM.1, fun e he => ⟨mm_at_code hM ((List.dropWhile_sublist _).subset he), hM.2 e ((List.dropWhile_sublist _).subset he)⟩⟩
  have h2 := mm_wp_ok _ _ _ _ h1 hw
  have h3 : mm_pc (mm_from M pc) = pc := by
    cases hf : mm_from M pc with
    | nil => rw [hf] at hw; exact hw.elim
    | cons e es =>
      show e.1 = pc
      have hne : mm_from M pc ≠ [] := by rw [hf]; exact fun z => by cases z
      have := List.head_dropWhile_not (fun e : mm_I => !(e.1 == pc)) (l := M.2.2.2.2.2.2) hne
      have e1 : (mm_from M pc).head hne = e := by simp [hf]
      have e2 : (!(((mm_from M pc).head hne).1 == pc)) = false := this
      rw [e1] at e2
      simpa using e2
  rw [h3] at h2
  exact h2
theorem mm_go_from {ro : mm_Ro} {d : Nat} {M : mm_M} {Q : Value → mm_H → Prop} {pc : Nat} {L S : List Value} {h : mm_H} (hM : mm_okM M) (hw : mm_wp ro d M Q 99999 (mm_from M pc) L S h) : mm_go ro d M pc L S h Q := mm_go_at 99999 hM hw
theorem mm_ev_at {ro : mm_Ro} {d z : Nat} {Z : mm_M} {As : List Value} {h : mm_H} {Q : Value → mm_H → Prop} (sp : Nat) (hZ : mm_ms[z]? = some Z) (hn : As.length = mm_na' Z) (hl : As.length ≤ Z.2.2.1) (hc : As.all mm_c1 = true) (hw : mm_wp ro d Z Q sp (mm_from Z 0) (As ++ List.replicate (Z.2.2.1 - As.length) .null) [] h) : mm_ev ro (d + 1) z As h Q := mm_ev_of hZ hn hl hc (mm_go_at sp (mm_hM z hZ) hw)
theorem mm_ev_in {ro : mm_Ro} {d z : Nat} {Z : mm_M} {As : List Value} {h : mm_H} {Q : Value → mm_H → Prop} (hZ : mm_ms[z]? = some Z) (hn : As.length = mm_na' Z) (hl : As.length ≤ Z.2.2.1) (hc : As.all mm_c1 = true) (hw : mm_wp ro d Z Q 99999 (mm_from Z 0) (As ++ List.replicate (Z.2.2.1 - As.length) .null) [] h) : mm_ev ro (d + 1) z As h Q := mm_ev_at 99999 hZ hn hl hc hw
theorem mm_rf {α : Type} {P : α → Prop} {v b : α} (e : v = b) (h : P b) : ∀ x, x = v → P x := fun x hx => by rw [hx, e]; exact h
theorem mm_inb {x : Int32} {n : Nat} (N : Nat) (e : n = N) (h : 0 ≤ x.toInt ∧ x.toInt < (N : Int)) : mm_in x n := by rw [e]; exact h
theorem mm_qq {Q : Value → mm_H → Prop} {v v' : Value} {h h' : mm_H} (hQ : Q v h) (e1 : v' = v) (e2 : h' = h) : Q v' h' := by rw [e1, e2]; exact hQ
end
section
/-! runs that read nothing of the arrays that are only read: they can be computed -/
def mm_ro0 : mm_Ro := fun _ => (0, fun _ => 0)
def mm_st0 (i : Instr) (pc : Nat) (L S : List Value) (h : mm_H) : Option (Nat × List Value × List Value × mm_H) :=
  match i with
  | .iaload => match S with
    | .int x :: .ref a :: S => if mm_k h a = 20 ∧ mm_in x (mm_n h a) then some (pc + 1, L, .int (mm_a h a x.toNatClampNeg) :: S, h) else none
    | _ => none
  | .arraylength => match S with
    | .ref a :: S => if 20 ≤ mm_k h a ∧ mm_k h a < 26 then some (pc + 1, L, .int (Int32.ofNat (mm_n h a)) :: S, h) else none
    | _ => none
  | i => mm_st mm_ro0 i pc L S h
theorem mm_st0_ok {ro : mm_Ro} {i : Instr} {pc : Nat} {L S : List Value} {h : mm_H} {y : Nat × List Value × List Value × mm_H} (hs : mm_st0 i pc L S h = some y) : mm_st ro i pc L S h = some y := by
  cases i
  case iaload =>
    unfold mm_st0 at hs
    dsimp only at hs
    split at hs
    · exact hs
    · cases hs
  case arraylength =>
    unfold mm_st0 at hs
    dsimp only at hs
    split at hs
    · exact hs
    · cases hs
  all_goals exact hs
def mm_ex0 (call : Nat → List Value → mm_H → Option (Value × mm_H)) (M : mm_M) : Nat → Nat → List Value → List Value → mm_H → Option (Value × mm_H)
  | 0, _, _, _, _ => none
  | n + 1, pc, L, S, h => match mm_at M pc with
    | none => none
    | some (_, _, i) => match mm_rt M.2.2.2.1 i S with
      | some r => some (r, h)
      | none => match mm_ca i with
        | some z => match mm_ms[z]? with
          | none => none
          | some Z => if mm_na' Z ≤ S.length ∧ S.length ≤ mm_na' Z + 8 ∧ (S.drop (mm_na' Z)).all mm_c1 = true ∧ mm_rc Z h (S.take (mm_na' Z)).reverse = true then (match call z (S.take (mm_na' Z)).reverse h with
            | none => none
            | some (r, h1) => mm_ex0 call M n (pc + 3) L (if Z.2.2.2.1 = none then S.drop (mm_na' Z) else r :: S.drop (mm_na' Z)) h1) else none
        | none => match mm_st0 i pc L S h with
          | none => none
          | some (pc', L', S', h') => mm_ex0 call M n pc' L' S' h'
def mm_run0 : Nat → Nat → Nat → List Value → mm_H → Option (Value × mm_H)
  | 0, _, _, _, _ => none
  | d + 1, n, z, As, h => match mm_ms[z]? with
    | none => none
    | some Z => if As.length = mm_na' Z ∧ As.length ≤ Z.2.2.1 ∧ As.all mm_c1 = true then mm_ex0 (mm_run0 d n) Z n 0 (As ++ List.replicate (Z.2.2.1 - As.length) .null) [] h else none
theorem mm_ex0_ok {ro : mm_Ro} {f g : Nat → List Value → mm_H → Option (Value × mm_H)} {M : mm_M} (hfg : mm_le f g) : ∀ (k pc : Nat) (L S : List Value) (h : mm_H) (x : Value × mm_H), mm_ex0 f M k pc L S h = some x → mm_ex mm_ms ro g M k pc L S h = some x := by
  intro k
  induction k with
  | zero => intro pc L S h x hex; cases hex
  | succ k ih =>
    intro pc L S h x hex
    unfold mm_ex0 at hex
    unfold mm_ex
    split at hex
    · cases hex
    · rename_i hat
      rw [hat]
      dsimp only
      split at hex
      · rename_i hrt
        rw [hrt]
        exact hex
      · rename_i hrt
        rw [hrt]
        dsimp only
        split at hex
        · rename_i hca
          rw [hca]
          dsimp only
          split at hex
          · cases hex
          · rename_i hZ
            rw [hZ]
            dsimp only
            rcases mm_if hex with ⟨hc, hex⟩ | ⟨-, hex⟩
            · rw [if_pos hc]
              split at hex
              · cases hex
              · rename_i r1 h1 hcall
                rw [hfg _ _ _ _ hcall]
                exact ih _ _ _ _ _ hex
            · cases hex
        · rename_i hca
          rw [hca]
          dsimp only
          split at hex
          · cases hex
          · rename_i hst
            rw [mm_st0_ok hst]
            exact ih _ _ _ _ _ hex
theorem mm_run0_ok {ro : mm_Ro} : ∀ (d n : Nat), mm_le (mm_run0 d n) (mm_run mm_ms ro d n) := by
  intro d
  induction d with
  | zero => intro n z As h x hr; cases hr
  | succ d ih =>
    intro n z As h x hr
    unfold mm_run0 at hr
    unfold mm_run
    split at hr
    · cases hr
    · rename_i hZ
      rw [hZ]
      dsimp only
      rcases mm_if hr with ⟨hc, hr⟩ | ⟨-, hr⟩
      · rw [if_pos hc]
        exact mm_ex0_ok (ih n) _ _ _ _ _ _ hr
      · cases hr
/-- a run that is computed -/
theorem mm_ev0 {ro : mm_Ro} {d z : Nat} {As : List Value} {h : mm_H} {Q : Value → mm_H → Prop} (n : Nat) (hs : (mm_run0 d n z As h).isSome = true) (hq : ∀ r h', mm_run0 d n z As h = some (r, h') → Q r h') : mm_ev ro d z As h Q := by
  obtain ⟨x, hx⟩ := Option.isSome_iff_exists.mp hs
  exact ⟨n, x.1, x.2, mm_run0_ok d n _ _ _ _ hx, hq x.1 x.2 hx⟩
end
section
/-- the heap with the class's object 1 laid, not yet built -/
def mm_h1 : mm_H := mm_new mm_h0 1 4
def mm_iX : mm_H := ((mm_run0 6 3000 n_Ga_init [.ref 1] mm_h1).getD (.null, mm_h0)).2
def mm_iM : mm_H := ((mm_run0 6 3000 n_Mo_init [.ref 80] (mm_new mm_iX 10 61)).getD (.null, mm_h0)).2
/-- THE SHAPE of what the two constructors make (by wip/whole/gen_shape.py): kinds, lengths, references -/
def sh_k : Nat → Nat := fun a => ([0, 1, 2, 20, 20, 21, 20, 22, 23, 3, 24, 4, 20, 4, 20, 5, 4, 20, 4, 20, 4, 20, 4, 20, 4, 20, 4, 20, 4, 20, 4, 20, 4, 20, 4, 20, 4, 20, 4, 20, 4, 20, 4, 20, 4, 20, 4, 20, 4, 20, 4, 20, 4, 20, 4, 20, 6, 20, 20, 20, 20, 25, 7, 20, 20, 7, 20, 20, 7, 20, 20, 7, 20, 20, 7, 20, 20, 7, 20, 20, 10, 20, 20, 20, 20, 21, 21, 20, 20, 20, 20, 20, 20, 20, 20, 21, 21, 20, 20, 20, 20, 20, 20, 20, 20, 20, 20, 20, 20, 21, 20, 20, 20, 20, 21, 20, 20, 20, 20, 20, 20, 20, 20, 20] : List Nat).getD a 0
def sh_n : Nat → Nat := fun a => ([0, 4, 10, 6, 6, 6, 12, 12, 10, 7, 20, 5, 10, 5, 10, 1, 5, 10, 5, 10, 5, 10, 5, 10, 5, 10, 5, 10, 5, 10, 5, 10, 5, 10, 5, 10, 5, 10, 5, 10, 5, 10, 5, 10, 5, 10, 5, 10, 5, 10, 5, 10, 5, 10, 5, 10, 15, 8, 16, 24, 288, 6, 5, 6, 4, 5, 6, 4, 5, 6, 4, 5, 6, 4, 5, 6, 4, 5, 6, 4, 61, 6, 12, 12, 12, 6, 12, 10, 10, 10, 10, 10, 10, 40, 40, 10, 40, 200, 200, 20, 20, 20, 20, 20, 20, 200, 200, 200, 200, 200, 10, 10, 10, 10, 10, 8, 25, 300, 36, 24, 6, 6, 6, 16] : List Nat).getD a 0
def sh_r : List (Nat × Nat × Nat) := [(0, 1, 2), (1, 1, 9), (2, 1, 56), (65, 2, 3), (66, 2, 4), (67, 2, 5), (70, 2, 6), (71, 2, 7), (73, 2, 8), (128, 9, 2), (129, 9, 15), (130, 9, 10), (131, 9, 11), (132, 9, 13), (192, 11, 12), (192, 13, 14), (192, 16, 17), (192, 18, 19), (192, 20, 21), (192, 22, 23), (192, 24, 25), (192, 26, 27), (192, 28, 29), (192, 30, 31), (192, 32, 33), (192, 34, 35), (192, 36, 37), (192, 38, 39), (192, 40, 41), (192, 42, 43), (192, 44, 45), (192, 46, 47), (192, 48, 49), (192, 50, 51), (192, 52, 53), (192, 54, 55), (256, 15, 2), (320, 56, 2), (321, 56, 57), (323, 56, 58), (330, 56, 59), (331, 56, 60), (332, 56, 61), (386, 62, 63), (386, 65, 66), (386, 68, 69), (386, 71, 72), (386, 74, 75), (386, 77, 78), (387, 62, 64), (387, 65, 67), (387, 68, 70), (387, 71, 73), (387, 74, 76), (387, 77, 79), (579, 80, 81), (580, 80, 82), (581, 80, 83), (582, 80, 84), (583, 80, 85), (584, 80, 86), (585, 80, 87), (586, 80, 88), (587, 80, 89), (588, 80, 90), (589, 80, 91), (590, 80, 92), (591, 80, 93), (592, 80, 94), (593, 80, 95), (594, 80, 96), (595, 80, 97), (596, 80, 98), (597, 80, 99), (598, 80, 100), (599, 80, 101), (600, 80, 102), (601, 80, 103), (602, 80, 104), (603, 80, 105), (604, 80, 106), (605, 80, 107), (606, 80, 108), (607, 80, 109), (614, 80, 110), (615, 80, 111), (616, 80, 112), (617, 80, 113), (618, 80, 114), (619, 80, 115), (620, 80, 116), (621, 80, 117), (622, 80, 118), (623, 80, 119), (624, 80, 120), (625, 80, 121), (626, 80, 122), (627, 80, 123)]
def mm_SHc (k : Nat → Nat) (r : Nat → Nat → Nat) (n : Nat → Nat) (q : Nat → Nat → Nat) : Prop := (∀ a, a < 124 → k a = sh_k a) ∧ (∀ a, a < 124 → n a = sh_n a) ∧ (∀ t ∈ sh_r, r t.1 t.2.1 = t.2.2) ∧ (∀ i, i < 20 → q 10 i = 16 + 2 * i) ∧ (∀ i, i < 6 → q 61 i = 62 + 3 * i)
abbrev mm_SH (h : mm_H) : Prop := mm_SHc (mm_k h) (mm_r h) (mm_n h) (mm_q h)
theorem mm_init_ok : (mm_run0 6 3000 n_Ga_init [.ref 1] mm_h1).isSome = true ∧ mm_t mm_iX = 79 ∧ (mm_run0 6 3000 n_Mo_init [.ref 80] (mm_new mm_iX 10 61)).isSome = true ∧ mm_t mm_iM = 123 := by decide +kernel
theorem mm_init_SH : mm_SHc (mm_k mm_iM) (mm_r mm_iM) (mm_n mm_iM) (mm_q mm_iM) := by
  unfold mm_SHc
  decide +kernel
theorem mm_SHc.k {k : Nat → Nat} {r : Nat → Nat → Nat} {n : Nat → Nat} {q : Nat → Nat → Nat} (h : mm_SHc k r n q) (a : Nat) (ha : a < 124) : k a = sh_k a := h.1 a ha
theorem mm_SHc.n {k : Nat → Nat} {r : Nat → Nat → Nat} {n : Nat → Nat} {q : Nat → Nat → Nat} (h : mm_SHc k r n q) (a : Nat) (ha : a < 124) : n a = sh_n a := h.2.1 a ha
theorem mm_SHc.r {k : Nat → Nat} {r : Nat → Nat → Nat} {n : Nat → Nat} {q : Nat → Nat → Nat} (h : mm_SHc k r n q) (f a b : Nat) (ha : (f, a, b) ∈ sh_r) : r f a = b := h.2.2.1 _ ha
end
section
/-! the shape, row by row (wip/whole/gen_sh2.py) -/
theorem k_1 {h : mm_H} (I : mm_SH h) : mm_k h 1 = 1 := I.k 1 (by decide)
theorem k_2 {h : mm_H} (I : mm_SH h) : mm_k h 2 = 2 := I.k 2 (by decide)
theorem k_3 {h : mm_H} (I : mm_SH h) : mm_k h 3 = 20 := I.k 3 (by decide)
theorem n_3 {h : mm_H} (I : mm_SH h) : mm_n h 3 = 6 := I.n 3 (by decide)
theorem k_4 {h : mm_H} (I : mm_SH h) : mm_k h 4 = 20 := I.k 4 (by decide)
theorem n_4 {h : mm_H} (I : mm_SH h) : mm_n h 4 = 6 := I.n 4 (by decide)
theorem k_5 {h : mm_H} (I : mm_SH h) : mm_k h 5 = 21 := I.k 5 (by decide)
theorem n_5 {h : mm_H} (I : mm_SH h) : mm_n h 5 = 6 := I.n 5 (by decide)
theorem k_6 {h : mm_H} (I : mm_SH h) : mm_k h 6 = 20 := I.k 6 (by decide)
theorem n_6 {h : mm_H} (I : mm_SH h) : mm_n h 6 = 12 := I.n 6 (by decide)
theorem k_7 {h : mm_H} (I : mm_SH h) : mm_k h 7 = 22 := I.k 7 (by decide)
theorem n_7 {h : mm_H} (I : mm_SH h) : mm_n h 7 = 12 := I.n 7 (by decide)
theorem k_8 {h : mm_H} (I : mm_SH h) : mm_k h 8 = 23 := I.k 8 (by decide)
theorem n_8 {h : mm_H} (I : mm_SH h) : mm_n h 8 = 10 := I.n 8 (by decide)
theorem k_9 {h : mm_H} (I : mm_SH h) : mm_k h 9 = 3 := I.k 9 (by decide)
theorem k_10 {h : mm_H} (I : mm_SH h) : mm_k h 10 = 24 := I.k 10 (by decide)
theorem n_10 {h : mm_H} (I : mm_SH h) : mm_n h 10 = 20 := I.n 10 (by decide)
theorem k_12 {h : mm_H} (I : mm_SH h) : mm_k h 12 = 20 := I.k 12 (by decide)
theorem n_12 {h : mm_H} (I : mm_SH h) : mm_n h 12 = 10 := I.n 12 (by decide)
theorem k_14 {h : mm_H} (I : mm_SH h) : mm_k h 14 = 20 := I.k 14 (by decide)
theorem n_14 {h : mm_H} (I : mm_SH h) : mm_n h 14 = 10 := I.n 14 (by decide)
theorem k_15 {h : mm_H} (I : mm_SH h) : mm_k h 15 = 5 := I.k 15 (by decide)
theorem k_17 {h : mm_H} (I : mm_SH h) : mm_k h 17 = 20 := I.k 17 (by decide)
theorem n_17 {h : mm_H} (I : mm_SH h) : mm_n h 17 = 10 := I.n 17 (by decide)
theorem k_19 {h : mm_H} (I : mm_SH h) : mm_k h 19 = 20 := I.k 19 (by decide)
theorem n_19 {h : mm_H} (I : mm_SH h) : mm_n h 19 = 10 := I.n 19 (by decide)
theorem k_21 {h : mm_H} (I : mm_SH h) : mm_k h 21 = 20 := I.k 21 (by decide)
theorem n_21 {h : mm_H} (I : mm_SH h) : mm_n h 21 = 10 := I.n 21 (by decide)
theorem k_23 {h : mm_H} (I : mm_SH h) : mm_k h 23 = 20 := I.k 23 (by decide)
theorem n_23 {h : mm_H} (I : mm_SH h) : mm_n h 23 = 10 := I.n 23 (by decide)
theorem k_25 {h : mm_H} (I : mm_SH h) : mm_k h 25 = 20 := I.k 25 (by decide)
theorem n_25 {h : mm_H} (I : mm_SH h) : mm_n h 25 = 10 := I.n 25 (by decide)
theorem k_27 {h : mm_H} (I : mm_SH h) : mm_k h 27 = 20 := I.k 27 (by decide)
theorem n_27 {h : mm_H} (I : mm_SH h) : mm_n h 27 = 10 := I.n 27 (by decide)
theorem k_29 {h : mm_H} (I : mm_SH h) : mm_k h 29 = 20 := I.k 29 (by decide)
theorem n_29 {h : mm_H} (I : mm_SH h) : mm_n h 29 = 10 := I.n 29 (by decide)
theorem k_31 {h : mm_H} (I : mm_SH h) : mm_k h 31 = 20 := I.k 31 (by decide)
theorem n_31 {h : mm_H} (I : mm_SH h) : mm_n h 31 = 10 := I.n 31 (by decide)
theorem k_33 {h : mm_H} (I : mm_SH h) : mm_k h 33 = 20 := I.k 33 (by decide)
theorem n_33 {h : mm_H} (I : mm_SH h) : mm_n h 33 = 10 := I.n 33 (by decide)
theorem k_35 {h : mm_H} (I : mm_SH h) : mm_k h 35 = 20 := I.k 35 (by decide)
theorem n_35 {h : mm_H} (I : mm_SH h) : mm_n h 35 = 10 := I.n 35 (by decide)
theorem k_37 {h : mm_H} (I : mm_SH h) : mm_k h 37 = 20 := I.k 37 (by decide)
theorem n_37 {h : mm_H} (I : mm_SH h) : mm_n h 37 = 10 := I.n 37 (by decide)
theorem k_39 {h : mm_H} (I : mm_SH h) : mm_k h 39 = 20 := I.k 39 (by decide)
theorem n_39 {h : mm_H} (I : mm_SH h) : mm_n h 39 = 10 := I.n 39 (by decide)
theorem k_41 {h : mm_H} (I : mm_SH h) : mm_k h 41 = 20 := I.k 41 (by decide)
theorem n_41 {h : mm_H} (I : mm_SH h) : mm_n h 41 = 10 := I.n 41 (by decide)
theorem k_43 {h : mm_H} (I : mm_SH h) : mm_k h 43 = 20 := I.k 43 (by decide)
theorem n_43 {h : mm_H} (I : mm_SH h) : mm_n h 43 = 10 := I.n 43 (by decide)
theorem k_45 {h : mm_H} (I : mm_SH h) : mm_k h 45 = 20 := I.k 45 (by decide)
theorem n_45 {h : mm_H} (I : mm_SH h) : mm_n h 45 = 10 := I.n 45 (by decide)
theorem k_47 {h : mm_H} (I : mm_SH h) : mm_k h 47 = 20 := I.k 47 (by decide)
theorem n_47 {h : mm_H} (I : mm_SH h) : mm_n h 47 = 10 := I.n 47 (by decide)
theorem k_49 {h : mm_H} (I : mm_SH h) : mm_k h 49 = 20 := I.k 49 (by decide)
theorem n_49 {h : mm_H} (I : mm_SH h) : mm_n h 49 = 10 := I.n 49 (by decide)
theorem k_51 {h : mm_H} (I : mm_SH h) : mm_k h 51 = 20 := I.k 51 (by decide)
theorem n_51 {h : mm_H} (I : mm_SH h) : mm_n h 51 = 10 := I.n 51 (by decide)
theorem k_53 {h : mm_H} (I : mm_SH h) : mm_k h 53 = 20 := I.k 53 (by decide)
theorem n_53 {h : mm_H} (I : mm_SH h) : mm_n h 53 = 10 := I.n 53 (by decide)
theorem k_55 {h : mm_H} (I : mm_SH h) : mm_k h 55 = 20 := I.k 55 (by decide)
theorem n_55 {h : mm_H} (I : mm_SH h) : mm_n h 55 = 10 := I.n 55 (by decide)
theorem k_56 {h : mm_H} (I : mm_SH h) : mm_k h 56 = 6 := I.k 56 (by decide)
theorem k_57 {h : mm_H} (I : mm_SH h) : mm_k h 57 = 20 := I.k 57 (by decide)
theorem n_57 {h : mm_H} (I : mm_SH h) : mm_n h 57 = 8 := I.n 57 (by decide)
theorem k_58 {h : mm_H} (I : mm_SH h) : mm_k h 58 = 20 := I.k 58 (by decide)
theorem n_58 {h : mm_H} (I : mm_SH h) : mm_n h 58 = 16 := I.n 58 (by decide)
theorem k_59 {h : mm_H} (I : mm_SH h) : mm_k h 59 = 20 := I.k 59 (by decide)
theorem n_59 {h : mm_H} (I : mm_SH h) : mm_n h 59 = 24 := I.n 59 (by decide)
theorem k_60 {h : mm_H} (I : mm_SH h) : mm_k h 60 = 20 := I.k 60 (by decide)
theorem n_60 {h : mm_H} (I : mm_SH h) : mm_n h 60 = 288 := I.n 60 (by decide)
theorem k_61 {h : mm_H} (I : mm_SH h) : mm_k h 61 = 25 := I.k 61 (by decide)
theorem n_61 {h : mm_H} (I : mm_SH h) : mm_n h 61 = 6 := I.n 61 (by decide)
theorem k_63 {h : mm_H} (I : mm_SH h) : mm_k h 63 = 20 := I.k 63 (by decide)
theorem n_63 {h : mm_H} (I : mm_SH h) : mm_n h 63 = 6 := I.n 63 (by decide)
theorem k_64 {h : mm_H} (I : mm_SH h) : mm_k h 64 = 20 := I.k 64 (by decide)
theorem n_64 {h : mm_H} (I : mm_SH h) : mm_n h 64 = 4 := I.n 64 (by decide)
theorem k_66 {h : mm_H} (I : mm_SH h) : mm_k h 66 = 20 := I.k 66 (by decide)
theorem n_66 {h : mm_H} (I : mm_SH h) : mm_n h 66 = 6 := I.n 66 (by decide)
theorem k_67 {h : mm_H} (I : mm_SH h) : mm_k h 67 = 20 := I.k 67 (by decide)
theorem n_67 {h : mm_H} (I : mm_SH h) : mm_n h 67 = 4 := I.n 67 (by decide)
theorem k_69 {h : mm_H} (I : mm_SH h) : mm_k h 69 = 20 := I.k 69 (by decide)
theorem n_69 {h : mm_H} (I : mm_SH h) : mm_n h 69 = 6 := I.n 69 (by decide)
theorem k_70 {h : mm_H} (I : mm_SH h) : mm_k h 70 = 20 := I.k 70 (by decide)
theorem n_70 {h : mm_H} (I : mm_SH h) : mm_n h 70 = 4 := I.n 70 (by decide)
theorem k_72 {h : mm_H} (I : mm_SH h) : mm_k h 72 = 20 := I.k 72 (by decide)
theorem n_72 {h : mm_H} (I : mm_SH h) : mm_n h 72 = 6 := I.n 72 (by decide)
theorem k_73 {h : mm_H} (I : mm_SH h) : mm_k h 73 = 20 := I.k 73 (by decide)
theorem n_73 {h : mm_H} (I : mm_SH h) : mm_n h 73 = 4 := I.n 73 (by decide)
theorem k_75 {h : mm_H} (I : mm_SH h) : mm_k h 75 = 20 := I.k 75 (by decide)
theorem n_75 {h : mm_H} (I : mm_SH h) : mm_n h 75 = 6 := I.n 75 (by decide)
theorem k_76 {h : mm_H} (I : mm_SH h) : mm_k h 76 = 20 := I.k 76 (by decide)
theorem n_76 {h : mm_H} (I : mm_SH h) : mm_n h 76 = 4 := I.n 76 (by decide)
theorem k_78 {h : mm_H} (I : mm_SH h) : mm_k h 78 = 20 := I.k 78 (by decide)
theorem n_78 {h : mm_H} (I : mm_SH h) : mm_n h 78 = 6 := I.n 78 (by decide)
theorem k_79 {h : mm_H} (I : mm_SH h) : mm_k h 79 = 20 := I.k 79 (by decide)
theorem n_79 {h : mm_H} (I : mm_SH h) : mm_n h 79 = 4 := I.n 79 (by decide)
theorem k_80 {h : mm_H} (I : mm_SH h) : mm_k h 80 = 10 := I.k 80 (by decide)
theorem k_81 {h : mm_H} (I : mm_SH h) : mm_k h 81 = 20 := I.k 81 (by decide)
theorem n_81 {h : mm_H} (I : mm_SH h) : mm_n h 81 = 6 := I.n 81 (by decide)
theorem k_82 {h : mm_H} (I : mm_SH h) : mm_k h 82 = 20 := I.k 82 (by decide)
theorem n_82 {h : mm_H} (I : mm_SH h) : mm_n h 82 = 12 := I.n 82 (by decide)
theorem k_83 {h : mm_H} (I : mm_SH h) : mm_k h 83 = 20 := I.k 83 (by decide)
theorem n_83 {h : mm_H} (I : mm_SH h) : mm_n h 83 = 12 := I.n 83 (by decide)
theorem k_84 {h : mm_H} (I : mm_SH h) : mm_k h 84 = 20 := I.k 84 (by decide)
theorem n_84 {h : mm_H} (I : mm_SH h) : mm_n h 84 = 12 := I.n 84 (by decide)
theorem k_85 {h : mm_H} (I : mm_SH h) : mm_k h 85 = 21 := I.k 85 (by decide)
theorem n_85 {h : mm_H} (I : mm_SH h) : mm_n h 85 = 6 := I.n 85 (by decide)
theorem k_86 {h : mm_H} (I : mm_SH h) : mm_k h 86 = 21 := I.k 86 (by decide)
theorem n_86 {h : mm_H} (I : mm_SH h) : mm_n h 86 = 12 := I.n 86 (by decide)
theorem k_87 {h : mm_H} (I : mm_SH h) : mm_k h 87 = 20 := I.k 87 (by decide)
theorem n_87 {h : mm_H} (I : mm_SH h) : mm_n h 87 = 10 := I.n 87 (by decide)
theorem k_88 {h : mm_H} (I : mm_SH h) : mm_k h 88 = 20 := I.k 88 (by decide)
theorem n_88 {h : mm_H} (I : mm_SH h) : mm_n h 88 = 10 := I.n 88 (by decide)
theorem k_89 {h : mm_H} (I : mm_SH h) : mm_k h 89 = 20 := I.k 89 (by decide)
theorem n_89 {h : mm_H} (I : mm_SH h) : mm_n h 89 = 10 := I.n 89 (by decide)
theorem k_90 {h : mm_H} (I : mm_SH h) : mm_k h 90 = 20 := I.k 90 (by decide)
theorem n_90 {h : mm_H} (I : mm_SH h) : mm_n h 90 = 10 := I.n 90 (by decide)
theorem k_91 {h : mm_H} (I : mm_SH h) : mm_k h 91 = 20 := I.k 91 (by decide)
theorem n_91 {h : mm_H} (I : mm_SH h) : mm_n h 91 = 10 := I.n 91 (by decide)
theorem k_92 {h : mm_H} (I : mm_SH h) : mm_k h 92 = 20 := I.k 92 (by decide)
theorem n_92 {h : mm_H} (I : mm_SH h) : mm_n h 92 = 10 := I.n 92 (by decide)
theorem k_93 {h : mm_H} (I : mm_SH h) : mm_k h 93 = 20 := I.k 93 (by decide)
theorem n_93 {h : mm_H} (I : mm_SH h) : mm_n h 93 = 40 := I.n 93 (by decide)
theorem k_94 {h : mm_H} (I : mm_SH h) : mm_k h 94 = 20 := I.k 94 (by decide)
theorem n_94 {h : mm_H} (I : mm_SH h) : mm_n h 94 = 40 := I.n 94 (by decide)
theorem k_95 {h : mm_H} (I : mm_SH h) : mm_k h 95 = 21 := I.k 95 (by decide)
theorem n_95 {h : mm_H} (I : mm_SH h) : mm_n h 95 = 10 := I.n 95 (by decide)
theorem k_96 {h : mm_H} (I : mm_SH h) : mm_k h 96 = 21 := I.k 96 (by decide)
theorem n_96 {h : mm_H} (I : mm_SH h) : mm_n h 96 = 40 := I.n 96 (by decide)
theorem k_97 {h : mm_H} (I : mm_SH h) : mm_k h 97 = 20 := I.k 97 (by decide)
theorem n_97 {h : mm_H} (I : mm_SH h) : mm_n h 97 = 200 := I.n 97 (by decide)
theorem k_98 {h : mm_H} (I : mm_SH h) : mm_k h 98 = 20 := I.k 98 (by decide)
theorem n_98 {h : mm_H} (I : mm_SH h) : mm_n h 98 = 200 := I.n 98 (by decide)
theorem k_99 {h : mm_H} (I : mm_SH h) : mm_k h 99 = 20 := I.k 99 (by decide)
theorem n_99 {h : mm_H} (I : mm_SH h) : mm_n h 99 = 20 := I.n 99 (by decide)
theorem k_100 {h : mm_H} (I : mm_SH h) : mm_k h 100 = 20 := I.k 100 (by decide)
theorem n_100 {h : mm_H} (I : mm_SH h) : mm_n h 100 = 20 := I.n 100 (by decide)
theorem k_101 {h : mm_H} (I : mm_SH h) : mm_k h 101 = 20 := I.k 101 (by decide)
theorem n_101 {h : mm_H} (I : mm_SH h) : mm_n h 101 = 20 := I.n 101 (by decide)
theorem k_102 {h : mm_H} (I : mm_SH h) : mm_k h 102 = 20 := I.k 102 (by decide)
theorem n_102 {h : mm_H} (I : mm_SH h) : mm_n h 102 = 20 := I.n 102 (by decide)
theorem k_103 {h : mm_H} (I : mm_SH h) : mm_k h 103 = 20 := I.k 103 (by decide)
theorem n_103 {h : mm_H} (I : mm_SH h) : mm_n h 103 = 20 := I.n 103 (by decide)
theorem k_104 {h : mm_H} (I : mm_SH h) : mm_k h 104 = 20 := I.k 104 (by decide)
theorem n_104 {h : mm_H} (I : mm_SH h) : mm_n h 104 = 20 := I.n 104 (by decide)
theorem k_105 {h : mm_H} (I : mm_SH h) : mm_k h 105 = 20 := I.k 105 (by decide)
theorem n_105 {h : mm_H} (I : mm_SH h) : mm_n h 105 = 200 := I.n 105 (by decide)
theorem k_106 {h : mm_H} (I : mm_SH h) : mm_k h 106 = 20 := I.k 106 (by decide)
theorem n_106 {h : mm_H} (I : mm_SH h) : mm_n h 106 = 200 := I.n 106 (by decide)
theorem k_107 {h : mm_H} (I : mm_SH h) : mm_k h 107 = 20 := I.k 107 (by decide)
theorem n_107 {h : mm_H} (I : mm_SH h) : mm_n h 107 = 200 := I.n 107 (by decide)
theorem k_108 {h : mm_H} (I : mm_SH h) : mm_k h 108 = 20 := I.k 108 (by decide)
theorem n_108 {h : mm_H} (I : mm_SH h) : mm_n h 108 = 200 := I.n 108 (by decide)
theorem k_109 {h : mm_H} (I : mm_SH h) : mm_k h 109 = 21 := I.k 109 (by decide)
theorem n_109 {h : mm_H} (I : mm_SH h) : mm_n h 109 = 200 := I.n 109 (by decide)
theorem k_110 {h : mm_H} (I : mm_SH h) : mm_k h 110 = 20 := I.k 110 (by decide)
theorem n_110 {h : mm_H} (I : mm_SH h) : mm_n h 110 = 10 := I.n 110 (by decide)
theorem k_111 {h : mm_H} (I : mm_SH h) : mm_k h 111 = 20 := I.k 111 (by decide)
theorem n_111 {h : mm_H} (I : mm_SH h) : mm_n h 111 = 10 := I.n 111 (by decide)
theorem k_112 {h : mm_H} (I : mm_SH h) : mm_k h 112 = 20 := I.k 112 (by decide)
theorem n_112 {h : mm_H} (I : mm_SH h) : mm_n h 112 = 10 := I.n 112 (by decide)
theorem k_113 {h : mm_H} (I : mm_SH h) : mm_k h 113 = 20 := I.k 113 (by decide)
theorem n_113 {h : mm_H} (I : mm_SH h) : mm_n h 113 = 10 := I.n 113 (by decide)
theorem k_114 {h : mm_H} (I : mm_SH h) : mm_k h 114 = 21 := I.k 114 (by decide)
theorem n_114 {h : mm_H} (I : mm_SH h) : mm_n h 114 = 10 := I.n 114 (by decide)
theorem k_115 {h : mm_H} (I : mm_SH h) : mm_k h 115 = 20 := I.k 115 (by decide)
theorem n_115 {h : mm_H} (I : mm_SH h) : mm_n h 115 = 8 := I.n 115 (by decide)
theorem k_116 {h : mm_H} (I : mm_SH h) : mm_k h 116 = 20 := I.k 116 (by decide)
theorem n_116 {h : mm_H} (I : mm_SH h) : mm_n h 116 = 25 := I.n 116 (by decide)
theorem k_117 {h : mm_H} (I : mm_SH h) : mm_k h 117 = 20 := I.k 117 (by decide)
theorem n_117 {h : mm_H} (I : mm_SH h) : mm_n h 117 = 300 := I.n 117 (by decide)
theorem k_118 {h : mm_H} (I : mm_SH h) : mm_k h 118 = 20 := I.k 118 (by decide)
theorem n_118 {h : mm_H} (I : mm_SH h) : mm_n h 118 = 36 := I.n 118 (by decide)
theorem k_119 {h : mm_H} (I : mm_SH h) : mm_k h 119 = 20 := I.k 119 (by decide)
theorem n_119 {h : mm_H} (I : mm_SH h) : mm_n h 119 = 24 := I.n 119 (by decide)
theorem k_120 {h : mm_H} (I : mm_SH h) : mm_k h 120 = 20 := I.k 120 (by decide)
theorem n_120 {h : mm_H} (I : mm_SH h) : mm_n h 120 = 6 := I.n 120 (by decide)
theorem k_121 {h : mm_H} (I : mm_SH h) : mm_k h 121 = 20 := I.k 121 (by decide)
theorem n_121 {h : mm_H} (I : mm_SH h) : mm_n h 121 = 6 := I.n 121 (by decide)
theorem k_122 {h : mm_H} (I : mm_SH h) : mm_k h 122 = 20 := I.k 122 (by decide)
theorem n_122 {h : mm_H} (I : mm_SH h) : mm_n h 122 = 6 := I.n 122 (by decide)
theorem k_123 {h : mm_H} (I : mm_SH h) : mm_k h 123 = 20 := I.k 123 (by decide)
theorem n_123 {h : mm_H} (I : mm_SH h) : mm_n h 123 = 16 := I.n 123 (by decide)
theorem r_0 {h : mm_H} (I : mm_SH h) : mm_r h 0 1 = 2 := I.r 0 1 2 (by decide)
theorem r_1 {h : mm_H} (I : mm_SH h) : mm_r h 1 1 = 9 := I.r 1 1 9 (by decide)
theorem r_2 {h : mm_H} (I : mm_SH h) : mm_r h 2 1 = 56 := I.r 2 1 56 (by decide)
theorem r_65 {h : mm_H} (I : mm_SH h) : mm_r h 65 2 = 3 := I.r 65 2 3 (by decide)
theorem r_66 {h : mm_H} (I : mm_SH h) : mm_r h 66 2 = 4 := I.r 66 2 4 (by decide)
theorem r_67 {h : mm_H} (I : mm_SH h) : mm_r h 67 2 = 5 := I.r 67 2 5 (by decide)
theorem r_70 {h : mm_H} (I : mm_SH h) : mm_r h 70 2 = 6 := I.r 70 2 6 (by decide)
theorem r_71 {h : mm_H} (I : mm_SH h) : mm_r h 71 2 = 7 := I.r 71 2 7 (by decide)
theorem r_73 {h : mm_H} (I : mm_SH h) : mm_r h 73 2 = 8 := I.r 73 2 8 (by decide)
theorem r_128 {h : mm_H} (I : mm_SH h) : mm_r h 128 9 = 2 := I.r 128 9 2 (by decide)
theorem r_129 {h : mm_H} (I : mm_SH h) : mm_r h 129 9 = 15 := I.r 129 9 15 (by decide)
theorem r_130 {h : mm_H} (I : mm_SH h) : mm_r h 130 9 = 10 := I.r 130 9 10 (by decide)
theorem r_131 {h : mm_H} (I : mm_SH h) : mm_r h 131 9 = 11 := I.r 131 9 11 (by decide)
theorem r_132 {h : mm_H} (I : mm_SH h) : mm_r h 132 9 = 13 := I.r 132 9 13 (by decide)
theorem r_256 {h : mm_H} (I : mm_SH h) : mm_r h 256 15 = 2 := I.r 256 15 2 (by decide)
theorem r_320 {h : mm_H} (I : mm_SH h) : mm_r h 320 56 = 2 := I.r 320 56 2 (by decide)
theorem r_321 {h : mm_H} (I : mm_SH h) : mm_r h 321 56 = 57 := I.r 321 56 57 (by decide)
theorem r_323 {h : mm_H} (I : mm_SH h) : mm_r h 323 56 = 58 := I.r 323 56 58 (by decide)
theorem r_330 {h : mm_H} (I : mm_SH h) : mm_r h 330 56 = 59 := I.r 330 56 59 (by decide)
theorem r_331 {h : mm_H} (I : mm_SH h) : mm_r h 331 56 = 60 := I.r 331 56 60 (by decide)
theorem r_332 {h : mm_H} (I : mm_SH h) : mm_r h 332 56 = 61 := I.r 332 56 61 (by decide)
theorem r_579 {h : mm_H} (I : mm_SH h) : mm_r h 579 80 = 81 := I.r 579 80 81 (by decide)
theorem r_580 {h : mm_H} (I : mm_SH h) : mm_r h 580 80 = 82 := I.r 580 80 82 (by decide)
theorem r_581 {h : mm_H} (I : mm_SH h) : mm_r h 581 80 = 83 := I.r 581 80 83 (by decide)
theorem r_582 {h : mm_H} (I : mm_SH h) : mm_r h 582 80 = 84 := I.r 582 80 84 (by decide)
theorem r_583 {h : mm_H} (I : mm_SH h) : mm_r h 583 80 = 85 := I.r 583 80 85 (by decide)
theorem r_584 {h : mm_H} (I : mm_SH h) : mm_r h 584 80 = 86 := I.r 584 80 86 (by decide)
theorem r_585 {h : mm_H} (I : mm_SH h) : mm_r h 585 80 = 87 := I.r 585 80 87 (by decide)
theorem r_586 {h : mm_H} (I : mm_SH h) : mm_r h 586 80 = 88 := I.r 586 80 88 (by decide)
theorem r_587 {h : mm_H} (I : mm_SH h) : mm_r h 587 80 = 89 := I.r 587 80 89 (by decide)
theorem r_588 {h : mm_H} (I : mm_SH h) : mm_r h 588 80 = 90 := I.r 588 80 90 (by decide)
theorem r_589 {h : mm_H} (I : mm_SH h) : mm_r h 589 80 = 91 := I.r 589 80 91 (by decide)
theorem r_590 {h : mm_H} (I : mm_SH h) : mm_r h 590 80 = 92 := I.r 590 80 92 (by decide)
theorem r_591 {h : mm_H} (I : mm_SH h) : mm_r h 591 80 = 93 := I.r 591 80 93 (by decide)
theorem r_592 {h : mm_H} (I : mm_SH h) : mm_r h 592 80 = 94 := I.r 592 80 94 (by decide)
theorem r_593 {h : mm_H} (I : mm_SH h) : mm_r h 593 80 = 95 := I.r 593 80 95 (by decide)
theorem r_594 {h : mm_H} (I : mm_SH h) : mm_r h 594 80 = 96 := I.r 594 80 96 (by decide)
theorem r_595 {h : mm_H} (I : mm_SH h) : mm_r h 595 80 = 97 := I.r 595 80 97 (by decide)
theorem r_596 {h : mm_H} (I : mm_SH h) : mm_r h 596 80 = 98 := I.r 596 80 98 (by decide)
theorem r_597 {h : mm_H} (I : mm_SH h) : mm_r h 597 80 = 99 := I.r 597 80 99 (by decide)
theorem r_598 {h : mm_H} (I : mm_SH h) : mm_r h 598 80 = 100 := I.r 598 80 100 (by decide)
theorem r_599 {h : mm_H} (I : mm_SH h) : mm_r h 599 80 = 101 := I.r 599 80 101 (by decide)
theorem r_600 {h : mm_H} (I : mm_SH h) : mm_r h 600 80 = 102 := I.r 600 80 102 (by decide)
theorem r_601 {h : mm_H} (I : mm_SH h) : mm_r h 601 80 = 103 := I.r 601 80 103 (by decide)
theorem r_602 {h : mm_H} (I : mm_SH h) : mm_r h 602 80 = 104 := I.r 602 80 104 (by decide)
theorem r_603 {h : mm_H} (I : mm_SH h) : mm_r h 603 80 = 105 := I.r 603 80 105 (by decide)
theorem r_604 {h : mm_H} (I : mm_SH h) : mm_r h 604 80 = 106 := I.r 604 80 106 (by decide)
theorem r_605 {h : mm_H} (I : mm_SH h) : mm_r h 605 80 = 107 := I.r 605 80 107 (by decide)
theorem r_606 {h : mm_H} (I : mm_SH h) : mm_r h 606 80 = 108 := I.r 606 80 108 (by decide)
theorem r_607 {h : mm_H} (I : mm_SH h) : mm_r h 607 80 = 109 := I.r 607 80 109 (by decide)
theorem r_614 {h : mm_H} (I : mm_SH h) : mm_r h 614 80 = 110 := I.r 614 80 110 (by decide)
theorem r_615 {h : mm_H} (I : mm_SH h) : mm_r h 615 80 = 111 := I.r 615 80 111 (by decide)
theorem r_616 {h : mm_H} (I : mm_SH h) : mm_r h 616 80 = 112 := I.r 616 80 112 (by decide)
theorem r_617 {h : mm_H} (I : mm_SH h) : mm_r h 617 80 = 113 := I.r 617 80 113 (by decide)
theorem r_618 {h : mm_H} (I : mm_SH h) : mm_r h 618 80 = 114 := I.r 618 80 114 (by decide)
theorem r_619 {h : mm_H} (I : mm_SH h) : mm_r h 619 80 = 115 := I.r 619 80 115 (by decide)
theorem r_620 {h : mm_H} (I : mm_SH h) : mm_r h 620 80 = 116 := I.r 620 80 116 (by decide)
theorem r_621 {h : mm_H} (I : mm_SH h) : mm_r h 621 80 = 117 := I.r 621 80 117 (by decide)
theorem r_622 {h : mm_H} (I : mm_SH h) : mm_r h 622 80 = 118 := I.r 622 80 118 (by decide)
theorem r_623 {h : mm_H} (I : mm_SH h) : mm_r h 623 80 = 119 := I.r 623 80 119 (by decide)
theorem r_624 {h : mm_H} (I : mm_SH h) : mm_r h 624 80 = 120 := I.r 624 80 120 (by decide)
theorem r_625 {h : mm_H} (I : mm_SH h) : mm_r h 625 80 = 121 := I.r 625 80 121 (by decide)
theorem r_626 {h : mm_H} (I : mm_SH h) : mm_r h 626 80 = 122 := I.r 626 80 122 (by decide)
theorem r_627 {h : mm_H} (I : mm_SH h) : mm_r h 627 80 = 123 := I.r 627 80 123 (by decide)
end
section
/-! words for contracts -/
noncomputable def mm_b (P : Prop) : Int32 := @ite _ P (Classical.propDecidable P) 1 0
theorem mm_b_t {P : Prop} (p : P) : mm_b P = 1 := if_pos p
theorem mm_b_f {P : Prop} (p : ¬ P) : mm_b P = 0 := if_neg p
theorem mm_b01 (P : Prop) : mm_b P = 0 ∨ mm_b P = 1 := by
  by_cases p : P
  · exact Or.inr (mm_b_t p)
  · exact Or.inl (mm_b_f p)
theorem mm_b0 {P : Prop} : mm_b P = 0 ↔ ¬ P := by
  by_cases p : P
  · rw [mm_b_t p]; exact ⟨fun q => absurd q (by decide), fun q => absurd p q⟩
  · exact ⟨fun _ => p, fun _ => mm_b_f p⟩
theorem mm_b_iff {P R : Prop} (e : P ↔ R) : mm_b P = mm_b R := by rw [propext e]
/-- what is given is what is owed -/
theorem mm_qe {Q : Value → mm_H → Prop} {x y : Int32} {h : mm_H} (hQ : Q (.int x) h) (e : x = y) : Q (.int y) h := e ▸ hQ
theorem c_Mo_within {ro : mm_Ro} {d : Nat} {x y z : Int32} {h : mm_H} {Q : Value → mm_H → Prop} (I : mm_SH h) (hQ : Q (.int (mm_b (y.toInt ≤ x.toInt ∧ x.toInt ≤ z.toInt))) h) : mm_ev ro (d + 1) n_Mo_within [.int x, .int y, .int z] h Q := by
  refine mm_ev_in (Z := mm_m_Mo_within) rfl rfl (Nat.le_of_ble_eq_true rfl) rfl ?_
  refine And.intro (fun c_2 => mm_go_from (mm_hM n_Mo_within rfl) ?_) (fun c_2 => ?_)
  · exact ⟨Or.inl rfl, mm_qe hQ (mm_b_f (fun q => by have : x.toInt < y.toInt := c_2; omega))⟩
  · refine And.intro (fun c_7 => mm_go_from (mm_hM n_Mo_within rfl) ?_) (fun c_7 => mm_go_from (mm_hM n_Mo_within rfl) ?_)
    · exact ⟨Or.inl rfl, mm_qe hQ (mm_b_f (fun q => by have : z.toInt < x.toInt := c_7; omega))⟩
    · exact ⟨Or.inr rfl, mm_qe hQ (mm_b_t ⟨by have : ¬ x.toInt < y.toInt := c_2; omega, by have : ¬ z.toInt < x.toInt := c_7; omega⟩)⟩
theorem c_Ga_within {ro : mm_Ro} {d : Nat} {x y : Int32} {h : mm_H} {Q : Value → mm_H → Prop} (I : mm_SH h) (hQ : Q (.int (mm_b (0 ≤ x.toInt ∧ x.toInt < y.toInt))) h) : mm_ev ro (d + 1) n_Ga_within [.int x, .int y] h Q := by
  refine mm_ev_in (Z := mm_m_Ga_within) rfl rfl (Nat.le_of_ble_eq_true rfl) rfl ?_
  refine And.intro (fun c_1 => mm_go_from (mm_hM n_Ga_within rfl) ?_) (fun c_1 => ?_)
  · exact ⟨Or.inl rfl, mm_qe hQ (mm_b_f (fun q => by have : x.toInt < 0 := c_1; omega))⟩
  · refine And.intro (fun c_7 => mm_go_from (mm_hM n_Ga_within rfl) ?_) (fun c_7 => mm_go_from (mm_hM n_Ga_within rfl) ?_)
    · exact ⟨Or.inl rfl, mm_qe hQ (mm_b_f (fun q => by have : y.toInt ≤ x.toInt := c_7; omega))⟩
    · exact ⟨Or.inr rfl, mm_qe hQ (mm_b_t ⟨by have : ¬ x.toInt < 0 := c_1; omega, by have : ¬ y.toInt ≤ x.toInt := c_7; omega⟩)⟩
theorem c_Mo_isClass {ro : mm_Ro} {d : Nat} {x : Int32} {h : mm_H} {Q : Value → mm_H → Prop} (I : mm_SH h) (hQ : Q (.int (mm_b ((0 : Int32).toInt ≤ x.toInt ∧ x.toInt ≤ (mm_i h 576 80 - 1).toInt))) h) : mm_ev ro (d + 2) n_Mo_isClass [.ref 80, .int x] h Q := by
  refine mm_ev_in (Z := mm_m_Mo_isClass) rfl rfl (Nat.le_of_ble_eq_true rfl) rfl ?_
  refine And.intro (I.k 80 (by decide)) (mm_rf rfl (And.intro ⟨rfl, trivial⟩ (c_Mo_within I (?_))))
  exact ⟨mm_b01 _, hQ⟩
theorem mm_i1 {h : mm_H} {f a : Nat} {x : Int32} : mm_i (mm_si h f a x) f a = x := if_pos ⟨rfl, rfl⟩
theorem mm_i2 {h : mm_H} {f a g b : Nat} {x : Int32} (hn : g ≠ f ∨ b ≠ a) : mm_i (mm_si h f a x) g b = mm_i h g b := if_neg (fun q => hn.elim (fun z => z q.1) (fun z => z q.2))
theorem mm_a1 {h : mm_H} {a j : Nat} {x : Int32} : mm_a (mm_sa h a j x) a j = x := if_pos ⟨rfl, rfl⟩
theorem mm_a2 {h : mm_H} {a j b i : Nat} {x : Int32} (hn : b ≠ a ∨ i ≠ j) : mm_a (mm_sa h a j x) b i = mm_a h b i := if_neg (fun q => hn.elim (fun z => z q.1) (fun z => z q.2))
theorem mm_r1 {h : mm_H} {f a x : Nat} : mm_r (mm_sr h f a x) f a = x := if_pos ⟨rfl, rfl⟩
theorem mm_r2 {h : mm_H} {f a g b x : Nat} (hn : g ≠ f ∨ b ≠ a) : mm_r (mm_sr h f a x) g b = mm_r h g b := if_neg (fun q => hn.elim (fun z => z q.1) (fun z => z q.2))
theorem mm_q1 {h : mm_H} {a j x : Nat} : mm_q (mm_sq h a j x) a j = x := if_pos ⟨rfl, rfl⟩
theorem mm_q2 {h : mm_H} {a j b i x : Nat} (hn : b ≠ a ∨ i ≠ j) : mm_q (mm_sq h a j x) b i = mm_q h b i := if_neg (fun q => hn.elim (fun z => z q.1) (fun z => z q.2))
theorem mm_nn {P : Prop} (h : ¬ mm_b P = 0) : P := Classical.not_not.mp (fun z => h (mm_b0.mpr z))
theorem mm_nb0 {P : Prop} (h : ¬ ¬ mm_b P = 0) : ¬ P := mm_b0.mp (Classical.not_not.mp h)
end
section
/-! small numbers -/
theorem nI_lit0 : (Int32.ofInt 0) = nI 0 := by decide
theorem nI_lit1 : (Int32.ofInt 1) = nI 1 := by decide
theorem mm_ncl {n : Nat} (h : n < 1000000) : (nI n).toNatClampNeg = n := nI_clamp (by omega)
theorem mm_nt {n : Nat} (h : n < 1000000) : (nI n).toInt = (n : Int) := nI_toInt (by omega)
theorem mm_nb {n N : Nat} (h : n < N) (hN : N < 1000000) : 0 ≤ (nI n).toInt ∧ (nI n).toInt < (N : Int) := by rw [mm_nt (by omega)]; omega
/-- frozen(): one of the classes is loaded -/
def mm_fz (h : mm_H) : Prop := ∃ x, x < 6 ∧ mm_a h 85 x ≠ 0
theorem l_Mo_frozen {ro : mm_Ro} {d : Nat} {h : mm_H} {Q : Value → mm_H → Prop} (I : mm_SH h) (hQ : Q (.int (mm_b (mm_fz h))) h) : ∀ (k x : Nat), x + k = 6 → (∀ j, j < x → mm_a h 85 j = 0) → mm_go ro d mm_m_Mo_frozen 2 [.ref 80, .int (nI x)] [] h Q := by
  intro k
  induction k with
  | zero =>
    intro x hx hj
    refine mm_go_from (mm_hM n_Mo_frozen rfl) (And.intro (fun c_5 => mm_go_from (mm_hM n_Mo_frozen rfl) ?_) (fun c_5 => ?_))
    · exact ⟨Or.inl rfl, mm_qe hQ (mm_b_f (fun ⟨j, h1, h2⟩ => h2 (hj j (by omega))))⟩
    · have c : ¬ (6 : Int) ≤ (nI x).toInt := c_5
      rw [mm_nt (by omega)] at c
      omega
  | succ k ih =>
    intro x hx hj
    refine mm_go_from (mm_hM n_Mo_frozen rfl) (And.intro (fun c_5 => ?_) (fun c_5 => ?_))
    · have c : (6 : Int) ≤ (nI x).toInt := c_5
      rw [mm_nt (by omega)] at c
      omega
    · refine And.intro (I.k 80 (by decide)) (mm_rf (I.r 583 80 85 (by decide)) (And.intro ⟨I.k 85 (by decide), mm_inb 6 (I.n 85 (by decide)) (mm_nb (by omega) (by omega))⟩ (mm_rf rfl (And.intro (fun c_14 => mm_go_from (mm_hM n_Mo_frozen rfl) ?_) (fun c_14 => ?_)))))
      · have c : mm_a h 85 (nI x).toNatClampNeg = 0 := c_14
        rw [mm_ncl (by omega)] at c
        have h1 := ih (x + 1) (by omega) (fun j hjx => by
          rcases Nat.lt_or_ge j x with q | q
          · exact hj j q
          · rw [show j = x by omega]; exact c)
        rw [nI_succ] at h1
        exact h1
      · have c : ¬ mm_a h 85 (nI x).toNatClampNeg = 0 := c_14
        rw [mm_ncl (by omega)] at c
        exact ⟨Or.inr rfl, mm_qe hQ (mm_b_t ⟨x, by omega, c⟩)⟩
theorem c_Mo_frozen {ro : mm_Ro} {d : Nat} {h : mm_H} {Q : Value → mm_H → Prop} (I : mm_SH h) (hQ : Q (.int (mm_b (mm_fz h))) h) : mm_ev ro (d + 1) n_Mo_frozen [.ref 80] h Q := by
  refine mm_ev_at 2 (Z := mm_m_Mo_frozen) rfl rfl (Nat.le_of_ble_eq_true rfl) rfl ?_
  exact l_Mo_frozen (ro := ro) (d := d) I hQ 6 0 rfl (fun j hj => absurd hj (Nat.not_lt_zero j))
/-- the class that is k steps above x, -1 behind the last -/
def mm_anc (up : Nat → Int) : Nat → Int → Int
  | 0, x => x
  | k + 1, x => if mm_anc up k x < 0 then -1 else up (mm_anc up k x).toNat
/-- x is BELOW y -/
def mm_bel (up : Nat → Int) (x y : Int) : Prop := 0 ≤ y ∧ ∃ k, mm_anc up k x = y
theorem mm_anc_neg {up : Nat → Int} {x : Int} {k : Nat} (h : mm_anc up k x < 0) : ∀ j, mm_anc up (k + j) x < 0 := by
  intro j
  induction j with
  | zero => exact h
  | succ j ih =>
    show (if mm_anc up (k + j) x < 0 then (-1 : Int) else up (mm_anc up (k + j) x).toNat) < 0
    rw [if_pos ih]
    decide
/-- the supers as the reference has them -/
def mm_up (h : mm_H) : Nat → Int := fun z => (mm_a h 81 z).toInt
/-- supers are made before -/
def mm_upo (up : Nat → Int) : Prop := ∀ z, z < 6 → up z < (z : Int)
theorem l_Mo_isBelow {ro : mm_Ro} {d : Nat} {h : mm_H} {Q : Value → mm_H → Prop} {x y : Int32} (I : mm_SH h) (U : mm_upo (mm_up h)) (hQ : Q (.int (mm_b (mm_bel (mm_up h) x.toInt y.toInt))) h) : ∀ (n k : Nat) (z : Int32), z.toInt < (n : Int) → n ≤ 6 → z.toInt = mm_anc (mm_up h) k x.toInt → (∀ j, j < k → mm_anc (mm_up h) j x.toInt ≠ y.toInt) → mm_go ro d mm_m_Mo_isBelow 2 [.ref 80, .int x, .int y, .int z] [] h Q := by
  intro n
  induction n with
  | zero =>
    intro k z hz hn hk hj
    refine mm_go_from (mm_hM n_Mo_isBelow rfl) (And.intro (fun c_3 => mm_go_from (mm_hM n_Mo_isBelow rfl) ?_) (fun c_3 => ?_))
    · refine And.intro (fun c_22 => mm_go_from (mm_hM n_Mo_isBelow rfl) ?_) (fun c_22 => ?_)
      · refine ⟨Or.inl rfl, mm_qe hQ (mm_b_f (fun ⟨h1, j, h2⟩ => ?_))⟩
        rcases Nat.lt_or_ge j k with q | q
        · exact hj j q h2
        · obtain ⟨i, rfl⟩ : ∃ i, j = k + i := ⟨j - k, by omega⟩
          have := mm_anc_neg (up := mm_up h) (x := x.toInt) (k := k) (by omega) i
          omega
      · exact absurd (show z.toInt < (0 : Int32).toInt from hz) c_22
    · exact absurd (show z.toInt < (0 : Int32).toInt from hz) c_3
  | succ n ih =>
    intro k z hz hn hk hj
    refine mm_go_from (mm_hM n_Mo_isBelow rfl) (And.intro (fun c_3 => mm_go_from (mm_hM n_Mo_isBelow rfl) ?_) (fun c_3 => ?_))
    · refine And.intro (fun c_22 => mm_go_from (mm_hM n_Mo_isBelow rfl) ?_) (fun c_22 => ?_)
      · have hz0 : z.toInt < 0 := c_3
        refine ⟨Or.inl rfl, mm_qe hQ (mm_b_f (fun ⟨h1, j, h2⟩ => ?_))⟩
        rcases Nat.lt_or_ge j k with q | q
        · exact hj j q h2
        · obtain ⟨i, rfl⟩ : ∃ i, j = k + i := ⟨j - k, by omega⟩
          have := mm_anc_neg (up := mm_up h) (x := x.toInt) (k := k) (by omega) i
          omega
      · exact absurd c_3 c_22
    · have hz0 : ¬ z.toInt < 0 := c_3
      refine And.intro (fun c_8 => mm_go_from (mm_hM n_Mo_isBelow rfl) ?_) (fun c_8 => ?_)
      · have e : z = y := c_8
        refine And.intro (fun c_22 => absurd c_22 c_3) (fun c_22 => mm_go_from (mm_hM n_Mo_isBelow rfl) ?_)
        exact ⟨Or.inr rfl, mm_qe hQ (mm_b_t ⟨by rw [← e]; omega, k, by rw [← hk, e]⟩)⟩
      · have e : ¬ z = y := c_8
        refine And.intro (I.k 80 (by decide)) (mm_rf (I.r 579 80 81 (by decide)) (And.intro ⟨I.k 81 (by decide), mm_inb 6 (I.n 81 (by decide)) (by omega)⟩ (mm_rf rfl ?_)))
        have hc : (z.toNatClampNeg : Int) = z.toInt := by
          show ((z.toInt.toNat : Nat) : Int) = z.toInt
          omega
        refine ih (k + 1) (mm_a h 81 z.toNatClampNeg) ?_ (by omega) ?_ ?_
        · have := U z.toNatClampNeg (by omega)
          have e2 : mm_up h z.toNatClampNeg = (mm_a h 81 z.toNatClampNeg).toInt := rfl
          omega
        · show (mm_a h 81 z.toNatClampNeg).toInt = if mm_anc (mm_up h) k x.toInt < 0 then -1 else mm_up h (mm_anc (mm_up h) k x.toInt).toNat
          rw [if_neg (by omega), ← hk]
          rfl
        · intro j hjk
          rcases Nat.lt_or_ge j k with q | q
          · exact hj j q
          · rw [show j = k by omega, ← hk]
            exact fun z9 => e (Int32.toInt_inj.mp z9)
theorem c_Mo_isBelow {ro : mm_Ro} {d : Nat} {h : mm_H} {Q : Value → mm_H → Prop} {x y : Int32} (I : mm_SH h) (U : mm_upo (mm_up h)) (hx : x.toInt < 6) (hQ : Q (.int (mm_b (mm_bel (mm_up h) x.toInt y.toInt))) h) : mm_ev ro (d + 1) n_Mo_isBelow [.ref 80, .int x, .int y] h Q := by
  refine mm_ev_at 2 (Z := mm_m_Mo_isBelow) rfl rfl (Nat.le_of_ble_eq_true rfl) rfl ?_
  exact l_Mo_isBelow (ro := ro) (d := d) I U hQ 6 0 x hx (Nat.le_refl _) rfl (fun j hj => absurd hj (Nat.not_lt_zero j))
end
section
theorem mm_prd {n : Nat} (h : n < 1000000) : (nI n - 1).toInt = (n : Int) - 1 := by
  cases n with
  | zero => decide
  | succ n => rw [nI_pred, mm_nt (by omega)]; omega
/-- which numbers are there: classes, fields, methods of the reference -/
def mm_MN (h : mm_H) (nC nF nM : Nat) : Prop := mm_i h 576 80 = nI nC ∧ mm_i h 577 80 = nI nF ∧ mm_i h 578 80 = nI nM ∧ 1 ≤ nC ∧ nC ≤ 6 ∧ nF ≤ 12 ∧ nM ≤ 10
theorem c_Mo_isC {ro : mm_Ro} {d nC nF nM : Nat} {x : Int32} {h : mm_H} {Q : Value → mm_H → Prop} (I : mm_SH h) (V : mm_MN h nC nF nM) (hQ : Q (.int (mm_b (0 ≤ x.toInt ∧ x.toInt < (nC : Int)))) h) : mm_ev ro (d + 2) n_Mo_isClass [.ref 80, .int x] h Q := by
  refine c_Mo_isClass I (mm_qe hQ (mm_b_iff ?_))
  rw [V.1, mm_prd (by have := V.2.2.2.2.1; omega)]
  show _ ↔ (0 : Int) ≤ _ ∧ _
  omega
theorem c_Mo_isM {ro : mm_Ro} {d nC nF nM : Nat} {x : Int32} {h : mm_H} {Q : Value → mm_H → Prop} (I : mm_SH h) (V : mm_MN h nC nF nM) (hQ : Q (.int (mm_b (0 ≤ x.toInt ∧ x.toInt < (nM : Int)))) h) : mm_ev ro (d + 2) n_Mo_isMethod [.ref 80, .int x] h Q := by
  refine mm_ev_in (Z := mm_m_Mo_isMethod) rfl rfl (Nat.le_of_ble_eq_true rfl) rfl ?_
  refine And.intro (k_80 I) (mm_rf V.2.2.1 (And.intro ⟨rfl, trivial⟩ (c_Mo_within I ?_)))
  refine ⟨mm_b01 _, mm_qe hQ (mm_b_iff ?_)⟩
  show _ ↔ (0 : Int) ≤ _ ∧ _ ≤ (nI nM - 1).toInt
  rw [mm_prd (by have := V.2.2.2.2.2.2; omega)]
  omega
/-- a sort and marks of a place for values -/
def mm_sm (nC : Nat) (s w : Int32) : Prop := (s.toInt = -1 ∨ 0 ≤ s.toInt ∧ s.toInt < (nC : Int)) ∧ 0 ≤ w.toInt ∧ w.toInt ≤ 15
theorem mm_m1 {s : Int32} : s = Int32.ofInt (-1) ↔ s.toInt = -1 := by
  constructor
  · intro e; rw [e]; decide
  · intro e; exact Int32.toInt_inj.mp (e.trans (by decide))
theorem c_Mo_says {ro : mm_Ro} {d nC nF nM : Nat} {s w : Int32} {h : mm_H} {Q : Value → mm_H → Prop} (I : mm_SH h) (V : mm_MN h nC nF nM) (hQ : Q (.int (mm_b (mm_sm nC s w))) h) : mm_ev ro (d + 3) n_Mo_says [.ref 80, .int s, .int w] h Q := by
  refine mm_ev_in (Z := mm_m_Mo_says) rfl rfl (Nat.le_of_ble_eq_true rfl) rfl ?_
  have fin : (s.toInt = -1 ∨ 0 ≤ s.toInt ∧ s.toInt < (nC : Int)) → mm_go ro (d + 2) mm_m_Mo_says 13 [.ref 80, .int s, .int w] [] h Q := by
    intro hs
    refine mm_go_from (mm_hM n_Mo_says rfl) (And.intro ⟨rfl, trivial⟩ (c_Mo_within I (And.intro (fun c_20 => mm_go_from (mm_hM n_Mo_says rfl) ?_) (fun c_20 => mm_go_from (mm_hM n_Mo_says rfl) ?_))))
    · have c := mm_b0.mp c_20
      exact ⟨Or.inl rfl, mm_qe hQ (mm_b_f (fun q => c q.2))⟩
    · have c := Classical.not_not.mp (fun z => c_20 (mm_b0.mpr z))
      exact ⟨Or.inr rfl, mm_qe hQ (mm_b_t ⟨hs, c⟩)⟩
  refine And.intro (fun c_2 => fin (Or.inl (mm_m1.mp c_2))) (fun c_2 => ?_)
  refine And.intro ⟨rfl, k_80 I⟩ (c_Mo_isC I V (And.intro (fun c_10 => mm_go_from (mm_hM n_Mo_says rfl) ?_) (fun c_10 => ?_)))
  · have c := mm_b0.mp c_10
    refine ⟨Or.inl rfl, mm_qe hQ (mm_b_f (fun q => ?_))⟩
    rcases q.1 with q1 | q1
    · exact c_2 (mm_m1.mpr q1)
    · exact c q1
  · have c := Classical.not_not.mp (fun z => c_10 (mm_b0.mpr z))
    refine And.intro ⟨rfl, trivial⟩ (c_Mo_within I (And.intro (fun c_20 => mm_go_from (mm_hM n_Mo_says rfl) ?_) (fun c_20 => mm_go_from (mm_hM n_Mo_says rfl) ?_)))
    · have c := mm_b0.mp c_20
      exact ⟨Or.inl rfl, mm_qe hQ (mm_b_f (fun q => c q.2))⟩
    · have c2 := Classical.not_not.mp (fun z => c_20 (mm_b0.mpr z))
      exact ⟨Or.inr rfl, mm_qe hQ (mm_b_t ⟨Or.inr c, c2⟩)⟩
theorem c_Mo_say {ro : mm_Ro} {d p : Nat} {s b w : Int32} {h : mm_H} {Q : Value → mm_H → Prop} (I : mm_SH h) (hp : p < 40) (hb : b = 0 ∨ b = 1) (hQ : Q .null (mm_sa (mm_sa (mm_sa h 93 p s) 96 p b) 94 p w)) : mm_ev ro (d + 1) n_Mo_say [.ref 80, .int (nI p), .int s, .int b, .int w] h Q := by
  refine mm_ev_in (Z := mm_m_Mo_say) rfl rfl (Nat.le_of_ble_eq_true rfl) rfl ?_
  refine And.intro (k_80 I) (mm_rf (r_591 I) (And.intro ⟨k_93 I, mm_inb 40 (n_93 I) (mm_nb hp (by omega))⟩ (And.intro (k_80 I) (mm_rf (r_594 I) (And.intro ⟨k_96 I, mm_inb 40 (n_96 I) (mm_nb hp (by omega)), hb⟩ (And.intro (k_80 I) (mm_rf (r_592 I) (And.intro ⟨k_94 I, mm_inb 40 (n_94 I) (mm_nb hp (by omega))⟩ ?_))))))))
  have e := mm_ncl (n := p) (by omega)
  show Q .null (mm_sa (mm_sa (mm_sa h 93 (nI p).toNatClampNeg s) 96 (nI p).toNatClampNeg b) 94 (nI p).toNatClampNeg w)
  rw [e]
  exact hQ
/-- cls(x) -/
theorem c_Mo_cls {ro : mm_Ro} {d nC nF nM : Nat} {x : Int32} {h : mm_H} {Q : Value → mm_H → Prop} (I : mm_SH h) (V : mm_MN h nC nF nM)
    (q1 : mm_fz h → Q (.int (-3)) h) (q2 : ¬ mm_fz h → ¬ (0 ≤ x.toInt ∧ x.toInt < (nC : Int)) → Q (.int (-1)) h) (q3 : ¬ mm_fz h → (0 ≤ x.toInt ∧ x.toInt < (nC : Int)) → nC = 6 → Q (.int (-2)) h)
    (q4 : ¬ mm_fz h → (0 ≤ x.toInt ∧ x.toInt < (nC : Int)) → nC < 6 → Q (.int (nI nC)) (mm_si (mm_sa h 81 nC x) 576 80 (nI (nC + 1)))) : mm_ev ro (d + 3) n_Mo_cls [.ref 80, .int x] h Q := by
  refine mm_ev_in (Z := mm_m_Mo_cls) rfl rfl (Nat.le_of_ble_eq_true rfl) rfl ?_
  refine And.intro ⟨rfl, k_80 I⟩ (c_Mo_frozen I (And.intro (fun c_4 => mm_go_from (mm_hM n_Mo_cls rfl) ?_) (fun c_4 => q1 (Classical.not_not.mp (fun z => c_4 (mm_b0.mpr z))))))
  have f := mm_b0.mp c_4
  refine And.intro ⟨rfl, k_80 I⟩ (c_Mo_isC I V (And.intro (fun c_15 => mm_go_from (mm_hM n_Mo_cls rfl) ?_) (fun c_15 => ?_)))
  · have b := Classical.not_not.mp (fun z => c_15 (mm_b0.mpr z))
    refine And.intro (k_80 I) (mm_rf V.1 (And.intro (fun c_26 => mm_go_from (mm_hM n_Mo_cls rfl) ?_) (fun c_26 => ?_)))
    · have hn : nC < 6 := by
        rcases Nat.lt_or_ge nC 6 with q | q
        · exact q
        · exact absurd (congrArg nI (show nC = 6 by have := V.2.2.2.2.1; omega)) c_26
      refine And.intro (k_80 I) (mm_rf (r_579 I) (And.intro (k_80 I) (mm_rf V.1 (And.intro ⟨k_81 I, mm_inb 6 (n_81 I) (mm_nb hn (by omega))⟩ (And.intro (k_80 I) (mm_rf V.1 (And.intro (k_80 I) (And.intro (k_80 I) (mm_rf mm_i1 ?_)))))))))
      refine mm_qq (q4 f b hn) ?_ ?_
      · show Value.int (nI nC + 1 - 1) = _
        rw [← nI_succ, nI_pred]
      · show mm_si (mm_sa h 81 (nI nC).toNatClampNeg x) 576 80 (nI nC + 1) = _
        rw [mm_ncl (by omega), ← nI_succ]
    · have c : nI nC = nI 6 := Classical.not_not.mp c_26
      exact q3 f b ((nI_eq (by have := V.2.2.2.2.1; omega) (by omega)).mp c)
  · exact q2 f (mm_b0.mp (Classical.not_not.mp c_15))
end
section
theorem mm_of {x : Int32} {N : Nat} (h : 0 ≤ x.toInt ∧ x.toInt < (N : Int)) : ∃ m, m < N ∧ x = nI m := by
  refine ⟨x.toInt.toNat, by omega, Int32.toInt_inj.mp ?_⟩
  have hx : x.toInt < 2147483648 := by have := Int32.toInt_lt x; omega
  rw [nI_toInt (by omega)]
  omega
theorem mm_no {h : Prop} (x : ¬ ¬ h) : h := Classical.not_not.mp x
/-- the reference's own(x, n): the first method of this class and name -/
def mm_hit (h : mm_H) (x n : Int32) (j : Nat) : Prop := mm_a h 87 j = x ∧ mm_a h 88 j = n
theorem l_Mo_own {ro : mm_Ro} {d nC nF nM : Nat} {x n : Int32} {h : mm_H} {Q : Value → mm_H → Prop} (I : mm_SH h) (V : mm_MN h nC nF nM) (q1 : ∀ m, m < nM → mm_hit h x n m → (∀ j, j < m → ¬ mm_hit h x n j) → Q (.int (nI m)) h) (q2 : (∀ j, j < nM → ¬ mm_hit h x n j) → Q (.int (-1)) h) : ∀ (k m : Nat), m + k = nM → (∀ j, j < m → ¬ mm_hit h x n j) → mm_go ro d mm_m_Mo_own 2 [.ref 80, .int x, .int n, .int (nI m)] [] h Q := by
  intro k
  have hM := V.2.2.2.2.2.2
  induction k with
  | zero =>
    intro m hm hj
    refine mm_go_from (mm_hM n_Mo_own rfl) (And.intro (k_80 I) (mm_rf V.2.2.1 (And.intro (fun c_7 => mm_go_from (mm_hM n_Mo_own rfl) ?_) (fun c_7 => ?_))))
    · exact q2 (fun j hjm => hj j (by omega))
    · exact absurd (show (nI nM).toInt ≤ (nI m).toInt by rw [mm_nt (by omega), mm_nt (by omega)]; omega) c_7
  | succ k ih =>
    intro m hm hj
    have nxt : ¬ mm_hit h x n m → mm_go ro d mm_m_Mo_own 2 [.ref 80, .int x, .int n, .int (nI m + 1)] [] h Q := by
      intro hn
      have := ih (m + 1) (by omega) (fun j hjm => by
        rcases Nat.lt_or_ge j m with q | q
        · exact hj j q
        · rw [show j = m by omega]; exact hn)
      rw [nI_succ] at this
      exact this
    have hb : 0 ≤ (nI m).toInt ∧ (nI m).toInt < ((10 : Nat) : Int) := mm_nb (by omega) (by omega)
    have hc : (nI m).toNatClampNeg = m := mm_ncl (by omega)
    refine mm_go_from (mm_hM n_Mo_own rfl) (And.intro (k_80 I) (mm_rf V.2.2.1 (And.intro (fun c_7 => ?_) (fun c_7 => ?_))))
    · have c : (nI nM).toInt ≤ (nI m).toInt := c_7
      rw [mm_nt (by omega), mm_nt (by omega)] at c
      omega
    · refine And.intro (k_80 I) (mm_rf (r_585 I) (And.intro ⟨k_87 I, mm_inb 10 (n_87 I) hb⟩ (mm_rf (congrArg _ hc) (And.intro (fun c_17 => mm_go_from (mm_hM n_Mo_own rfl) ?_) (fun c_17 => ?_)))))
      · exact nxt (fun q => c_17 q.1)
      · refine And.intro (k_80 I) (mm_rf (r_586 I) (And.intro ⟨k_88 I, mm_inb 10 (n_88 I) hb⟩ (mm_rf (congrArg _ hc) (And.intro (fun c_27 => mm_go_from (mm_hM n_Mo_own rfl) ?_) (fun c_27 => ?_)))))
        · exact nxt (fun q => c_27 q.2)
        · exact q1 m (by omega) ⟨mm_no c_17, mm_no c_27⟩ hj
theorem c_Mo_own {ro : mm_Ro} {d nC nF nM : Nat} {x n : Int32} {h : mm_H} {Q : Value → mm_H → Prop} (I : mm_SH h) (V : mm_MN h nC nF nM) (q1 : ∀ m, m < nM → mm_hit h x n m → (∀ j, j < m → ¬ mm_hit h x n j) → Q (.int (nI m)) h) (q2 : (∀ j, j < nM → ¬ mm_hit h x n j) → Q (.int (-1)) h) : mm_ev ro (d + 1) n_Mo_own [.ref 80, .int x, .int n] h Q := by
  refine mm_ev_at 2 (Z := mm_m_Mo_own) rfl rfl (Nat.le_of_ble_eq_true rfl) rfl ?_
  exact l_Mo_own (ro := ro) (d := d) I V q1 q2 nM 0 (Nat.zero_add _) (fun j hj => absurd hj (Nat.not_lt_zero j))
theorem c_Mo_isLoaded {ro : mm_Ro} {d nC nF nM : Nat} {c : Int32} {h : mm_H} {Q : Value → mm_H → Prop} (I : mm_SH h) (V : mm_MN h nC nF nM) (hQ : Q (.int (mm_b (∃ m, m < nC ∧ c = nI m ∧ mm_a h 85 m ≠ 0))) h) : mm_ev ro (d + 3) n_Mo_isLoaded [.ref 80, .int c] h Q := by
  refine mm_ev_in (Z := mm_m_Mo_isLoaded) rfl rfl (Nat.le_of_ble_eq_true rfl) rfl ?_
  have hC := V.2.2.2.2.1
  refine And.intro ⟨rfl, k_80 I⟩ (c_Mo_isC I V (And.intro (fun c_5 => mm_go_from (mm_hM n_Mo_isLoaded rfl) ?_) (fun c_5 => ?_)))
  · refine ⟨Or.inl rfl, mm_qe hQ (mm_b_f ?_)⟩
    rintro ⟨m, hm, rfl, -⟩
    exact mm_b0.mp c_5 (mm_nb hm (by omega))
  · obtain ⟨m, hm, rfl⟩ := mm_of (mm_nn c_5)
    have hc : (nI m).toNatClampNeg = m := mm_ncl (by omega)
    refine And.intro (k_80 I) (mm_rf (r_583 I) (And.intro ⟨k_85 I, mm_inb 6 (n_85 I) (mm_nb (by omega) (by omega))⟩ (mm_rf (congrArg _ hc) (And.intro (fun c_14 => mm_go_from (mm_hM n_Mo_isLoaded rfl) ?_) (fun c_14 => mm_go_from (mm_hM n_Mo_isLoaded rfl) ?_)))))
    · refine ⟨Or.inl rfl, mm_qe hQ (mm_b_f ?_)⟩
      rintro ⟨m', hm', e, hl⟩
      have e2 := (nI_eq (by omega) (by omega)).mp e
      subst e2
      exact hl c_14
    · exact ⟨Or.inr rfl, mm_qe hQ (mm_b_t ⟨m, hm, rfl, c_14⟩)⟩
theorem c_Mo_place {ro : mm_Ro} {d : Nat} {h : mm_H} {Q : Value → mm_H → Prop} (I : mm_SH h) (hQ : Q (.int (mm_i h 609 80)) h) : mm_ev ro (d + 1) n_Mo_place [.ref 80] h Q := by
  refine mm_ev_in (Z := mm_m_Mo_place) rfl rfl (Nat.le_of_ble_eq_true rfl) rfl ?_
  exact And.intro (k_80 I) (mm_rf rfl hQ)
theorem c_Mo_value {ro : mm_Ro} {d : Nat} {h : mm_H} {Q : Value → mm_H → Prop} (I : mm_SH h) (hQ : Q (.int (mm_i h 636 80)) h) : mm_ev ro (d + 1) n_Mo_value [.ref 80] h Q := by
  refine mm_ev_in (Z := mm_m_Mo_value) rfl rfl (Nat.le_of_ble_eq_true rfl) rfl ?_
  exact And.intro (k_80 I) (mm_rf rfl hQ)
theorem c_Mo_input {ro : mm_Ro} {d n : Nat} {v : Int32} {h : mm_H} {Q : Value → mm_H → Prop} (I : mm_SH h) (hn : mm_i h 628 80 = nI n) (h8 : n ≤ 8) (q1 : n = 8 → Q (.int (-2)) h) (q2 : n < 8 → Q (.int (nI (n + 1))) (mm_si (mm_sa h 115 n v) 628 80 (nI (n + 1)))) : mm_ev ro (d + 1) n_Mo_input [.ref 80, .int v] h Q := by
  refine mm_ev_in (Z := mm_m_Mo_input) rfl rfl (Nat.le_of_ble_eq_true rfl) rfl ?_
  refine And.intro (k_80 I) (mm_rf hn (And.intro (fun c_6 => mm_go_from (mm_hM n_Mo_input rfl) ?_) (fun c_6 => ?_)))
  · have hlt : n < 8 := by
      rcases Nat.lt_or_ge n 8 with q | q
      · exact q
      · exact absurd (congrArg nI (show n = 8 by omega)) c_6
    refine And.intro (k_80 I) (mm_rf (r_619 I) (And.intro (k_80 I) (mm_rf hn (And.intro ⟨k_115 I, mm_inb 8 (n_115 I) (mm_nb hlt (by omega))⟩ (And.intro (k_80 I) (mm_rf hn (And.intro (k_80 I) (And.intro (k_80 I) (mm_rf mm_i1 ?_)))))))))
    refine mm_qq (q2 hlt) ?_ ?_
    · show Value.int (nI n + 1) = _
      rw [← nI_succ]
    · show mm_si (mm_sa h 115 (nI n).toNatClampNeg v) 628 80 (nI n + 1) = _
      rw [mm_ncl (by omega), ← nI_succ]
  · exact q1 ((nI_eq (by omega) (by omega)).mp (mm_no c_6))
/-- output(k): what was put out, of the first sixteen -/
theorem c_Mo_output {ro : mm_Ro} {d n : Nat} {k : Int32} {h : mm_H} {Q : Value → mm_H → Prop} (I : mm_SH h) (hn : mm_i h 631 80 = nI n) (hn2 : n < 1000) (q1 : ∀ j, j < 16 → j < n → k = nI j → Q (.int (mm_a h 123 j)) h) (q2 : ¬ (0 ≤ k.toInt ∧ k.toInt ≤ 15 ∧ k.toInt < (n : Int)) → Q (.int 0) h) : mm_ev ro (d + 2) n_Mo_output [.ref 80, .int k] h Q := by
  refine mm_ev_in (Z := mm_m_Mo_output) rfl rfl (Nat.le_of_ble_eq_true rfl) rfl ?_
  refine And.intro ⟨rfl, trivial⟩ (c_Mo_within I (And.intro (fun c_7 => mm_go_from (mm_hM n_Mo_output rfl) ?_) (fun c_7 => ?_)))
  · exact q2 (fun q => mm_b0.mp c_7 ⟨q.1, q.2.1⟩)
  · have b : 0 ≤ k.toInt ∧ k.toInt ≤ 15 := mm_nn c_7
    obtain ⟨j, hj, rfl⟩ := mm_of (x := k) (N := 16) ⟨b.1, by omega⟩
    refine And.intro (k_80 I) (mm_rf hn (And.intro (fun c_15 => mm_go_from (mm_hM n_Mo_output rfl) ?_) (fun c_15 => ?_)))
    · have c : (nI n).toInt ≤ (nI j).toInt := c_15
      rw [mm_nt (by omega), mm_nt (by omega)] at c
      exact q2 (fun q => by have := q.2.2; rw [mm_nt (by omega)] at this; omega)
    · have c : ¬ (nI n).toInt ≤ (nI j).toInt := c_15
      rw [mm_nt (by omega), mm_nt (by omega)] at c
      have hc : (nI j).toNatClampNeg = j := mm_ncl (by omega)
      exact And.intro (k_80 I) (mm_rf (r_627 I) (And.intro ⟨k_123 I, mm_inb 16 (n_123 I) (mm_nb hj (by omega))⟩ (mm_rf (congrArg _ hc) (mm_go_from (mm_hM n_Mo_output rfl) (q1 j hj (by omega) rfl)))))
end
section
theorem mm_nel {n N : Nat} (hN : n ≤ N) (h1 : N < 1000000) (c : ¬ nI n = nI N) : n < N := by
  rcases Nat.lt_or_ge n N with q | q
  · exact q
  · exact absurd (congrArg nI (show n = N by omega)) c
theorem mm_nee {n N : Nat} (hn : n < 1000000) (h1 : N < 1000000) (c : nI n = nI N) : n = N := (nI_eq (by omega) (by omega)).mp c
theorem c_Mo_field {ro : mm_Ro} {d nC nF nM : Nat} {c s b w : Int32} {h : mm_H} {Q : Value → mm_H → Prop} (I : mm_SH h) (V : mm_MN h nC nF nM) (hb : b = 0 ∨ b = 1)
    (q1 : mm_fz h → Q (.int (-3)) h) (q2 : ¬ mm_fz h → ¬ ((0 ≤ c.toInt ∧ c.toInt < (nC : Int)) ∧ mm_sm nC s w) → Q (.int (-1)) h) (q3 : ¬ mm_fz h → (0 ≤ c.toInt ∧ c.toInt < (nC : Int)) → mm_sm nC s w → nF = 12 → Q (.int (-2)) h)
    (q4 : ¬ mm_fz h → (0 ≤ c.toInt ∧ c.toInt < (nC : Int)) → mm_sm nC s w → nF < 12 → Q (.int (nI nF)) (mm_si (mm_sa (mm_sa (mm_sa (mm_sa h 82 nF c) 83 nF s) 86 nF b) 84 nF w) 577 80 (nI (nF + 1)))) : mm_ev ro (d + 4) n_Mo_field [.ref 80, .int c, .int s, .int b, .int w] h Q := by
  refine mm_ev_in (Z := mm_m_Mo_field) rfl rfl (Nat.le_of_ble_eq_true rfl) rfl ?_
  refine And.intro ⟨rfl, k_80 I⟩ (c_Mo_frozen I (And.intro (fun c_4 => mm_go_from (mm_hM n_Mo_field rfl) ?_) (fun c_4 => q1 (mm_nn c_4))))
  have f := mm_b0.mp c_4
  refine And.intro ⟨rfl, k_80 I⟩ (c_Mo_isC I V (And.intro (fun c_15 => mm_go_from (mm_hM n_Mo_field rfl) (q2 f (fun q => mm_b0.mp c_15 q.1))) (fun c_15 => ?_)))
  refine And.intro ⟨rfl, k_80 I⟩ (c_Mo_says I V (And.intro (fun c_25 => mm_go_from (mm_hM n_Mo_field rfl) ?_) (fun c_25 => q2 f (fun q => mm_nb0 c_25 q.2))))
  have h1 := mm_nn c_15
  have h2 := mm_nn c_25
  refine And.intro (k_80 I) (mm_rf V.2.1 (And.intro (fun c_36 => mm_go_from (mm_hM n_Mo_field rfl) ?_) (fun c_36 => q3 f h1 h2 (mm_nee (by have := V.2.2.2.2.2.1; omega) (by omega) (mm_no c_36)))))
  have hn : nF < 12 := mm_nel V.2.2.2.2.2.1 (by omega) c_36
  have hB : 0 ≤ (nI nF).toInt ∧ (nI nF).toInt < ((12 : Nat) : Int) := mm_nb hn (by omega)
  refine And.intro (k_80 I) (mm_rf (r_580 I) (And.intro (k_80 I) (mm_rf V.2.1 (And.intro ⟨k_82 I, mm_inb 12 (n_82 I) hB⟩ (And.intro (k_80 I) (mm_rf (r_581 I) (And.intro (k_80 I) (mm_rf V.2.1 (And.intro ⟨k_83 I, mm_inb 12 (n_83 I) hB⟩ (And.intro (k_80 I) (mm_rf (r_584 I) (And.intro (k_80 I) (mm_rf V.2.1 (And.intro ⟨k_86 I, mm_inb 12 (n_86 I) hB, hb⟩ (And.intro (k_80 I) (mm_rf (r_582 I) (And.intro (k_80 I) (mm_rf V.2.1 (And.intro ⟨k_84 I, mm_inb 12 (n_84 I) hB⟩ (And.intro (k_80 I) (mm_rf V.2.1 (And.intro (k_80 I) (And.intro (k_80 I) (mm_rf mm_i1 ?_))))))))))))))))))))))))
  refine mm_qq (q4 f h1 h2 hn) ?_ ?_
  · show Value.int (nI nF + 1 - 1) = _
    rw [← nI_succ, nI_pred]
  · show mm_si (mm_sa (mm_sa (mm_sa (mm_sa h 82 (nI nF).toNatClampNeg c) 83 (nI nF).toNatClampNeg s) 86 (nI nF).toNatClampNeg b) 84 (nI nF).toNatClampNeg w) 577 80 (nI nF + 1) = _
    rw [mm_ncl (by omega), ← nI_succ]
theorem c_Mo_wipe {ro : mm_Ro} {d nC nF nM : Nat} {m : Int32} {h : mm_H} {Q : Value → mm_H → Prop} (I : mm_SH h) (V : mm_MN h nC nF nM)
    (q1 : mm_fz h → Q (.int (-3)) h) (q2 : ¬ mm_fz h → ¬ (0 ≤ m.toInt ∧ m.toInt < (nM : Int)) → Q (.int (-1)) h) (q3 : ¬ mm_fz h → ∀ k, k < nM → m = nI k → Q (.int (mm_a h 91 k)) (mm_sa (mm_sa h 91 k 0) 92 k 0)) : mm_ev ro (d + 3) n_Mo_wipe [.ref 80, .int m] h Q := by
  refine mm_ev_in (Z := mm_m_Mo_wipe) rfl rfl (Nat.le_of_ble_eq_true rfl) rfl ?_
  refine And.intro ⟨rfl, k_80 I⟩ (c_Mo_frozen I (And.intro (fun c_4 => mm_go_from (mm_hM n_Mo_wipe rfl) ?_) (fun c_4 => q1 (mm_nn c_4))))
  have f := mm_b0.mp c_4
  refine And.intro ⟨rfl, k_80 I⟩ (c_Mo_isM I V (And.intro (fun c_15 => mm_go_from (mm_hM n_Mo_wipe rfl) ?_) (fun c_15 => q2 f (mm_nb0 c_15))))
  obtain ⟨k, hk, rfl⟩ := mm_of (mm_nn c_15)
  have hM := V.2.2.2.2.2.2
  have hB : 0 ≤ (nI k).toInt ∧ (nI k).toInt < ((10 : Nat) : Int) := mm_nb (by omega) (by omega)
  have hc : (nI k).toNatClampNeg = k := mm_ncl (by omega)
  refine And.intro (k_80 I) (mm_rf (r_589 I) (And.intro ⟨k_91 I, mm_inb 10 (n_91 I) hB⟩ (mm_rf (congrArg _ hc) (And.intro (k_80 I) (mm_rf (r_589 I) (And.intro ⟨k_91 I, mm_inb 10 (n_91 I) hB⟩ (And.intro (k_80 I) (mm_rf (r_590 I) (And.intro ⟨k_92 I, mm_inb 10 (n_92 I) hB⟩ ?_)))))))))
  refine mm_qq (q3 f k hk rfl) rfl ?_
  show mm_sa (mm_sa h 91 (nI k).toNatClampNeg 0) 92 (nI k).toNatClampNeg 0 = _
  rw [hc]
theorem c_Mo_builtIn {ro : mm_Ro} {d nC nF nM : Nat} {m k : Int32} {h : mm_H} {Q : Value → mm_H → Prop} (I : mm_SH h) (V : mm_MN h nC nF nM)
    (q1 : (mm_fz h ∨ ¬ (0 ≤ m.toInt ∧ m.toInt < (nM : Int)) ∨ ¬ (-1 ≤ k.toInt ∧ k.toInt ≤ 2)) → Q (.int 0) h) (q2 : ¬ mm_fz h → ∀ j, j < nM → m = nI j → (-1 ≤ k.toInt ∧ k.toInt ≤ 2) → Q (.int 1) (mm_sa h 90 j k)) : mm_ev ro (d + 3) n_Mo_builtIn [.ref 80, .int m, .int k] h Q := by
  refine mm_ev_in (Z := mm_m_Mo_builtIn) rfl rfl (Nat.le_of_ble_eq_true rfl) rfl ?_
  refine And.intro ⟨rfl, k_80 I⟩ (c_Mo_frozen I (And.intro (fun c_4 => mm_go_from (mm_hM n_Mo_builtIn rfl) ⟨Or.inl rfl, q1 (Or.inl (mm_nn c_4))⟩) (fun c_4 => ?_)))
  have f := mm_nb0 c_4
  refine And.intro ⟨rfl, k_80 I⟩ (c_Mo_isM I V (And.intro (fun c_12 => mm_go_from (mm_hM n_Mo_builtIn rfl) ⟨Or.inl rfl, q1 (Or.inr (Or.inl (mm_b0.mp c_12)))⟩) (fun c_12 => ?_)))
  refine And.intro ⟨rfl, trivial⟩ (c_Mo_within I (And.intro (fun c_21 => mm_go_from (mm_hM n_Mo_builtIn rfl) ?_) (fun c_21 => ⟨Or.inl rfl, q1 (Or.inr (Or.inr (mm_nb0 c_21)))⟩)))
  obtain ⟨j, hj, rfl⟩ := mm_of (mm_nn c_12)
  have hM := V.2.2.2.2.2.2
  have hc : (nI j).toNatClampNeg = j := mm_ncl (by omega)
  refine And.intro (k_80 I) (mm_rf (r_588 I) (And.intro ⟨k_90 I, mm_inb 10 (n_90 I) (mm_nb (by omega) (by omega))⟩ ⟨Or.inr rfl, ?_⟩))
  refine mm_qq (q2 f j hj rfl (mm_nn c_21)) rfl ?_
  show mm_sa h 90 (nI j).toNatClampNeg k = _
  rw [hc]
theorem c_Mo_told {ro : mm_Ro} {d : Nat} {w : Int32} {h : mm_H} {Q : Value → mm_H → Prop} (I : mm_SH h) (q0 : w.toInt = 0 → Q (.int (mm_i h 632 80)) h) (q1 : w.toInt = 1 → Q (.int (mm_i h 629 80)) h) (q2 : w.toInt = 2 → Q (.int (mm_i h 631 80)) h) (q3 : w.toInt = 3 → Q (.int (mm_i h 630 80)) h) (q4 : w.toInt = 4 → Q (.int (mm_i h 634 80)) h) (q5 : (w.toInt < 0 ∨ 4 < w.toInt) → Q (.int (-1)) h) : mm_ev ro (d + 1) n_Mo_told [.ref 80, .int w] h Q := by
  refine mm_ev_in (Z := mm_m_Mo_told) rfl rfl (Nat.le_of_ble_eq_true rfl) rfl ?_
  refine And.intro (fun c => mm_go_from (mm_hM n_Mo_told rfl) (q5 c)) (And.intro (Nat.le_of_ble_eq_true rfl) ?_)
  exact ⟨fun c => mm_go_from (mm_hM n_Mo_told rfl) (And.intro (k_80 I) (mm_rf rfl (q0 c))), fun c => mm_go_from (mm_hM n_Mo_told rfl) (And.intro (k_80 I) (mm_rf rfl (q1 c))), fun c => mm_go_from (mm_hM n_Mo_told rfl) (And.intro (k_80 I) (mm_rf rfl (q2 c))), fun c => mm_go_from (mm_hM n_Mo_told rfl) (And.intro (k_80 I) (mm_rf rfl (q3 c))), fun c => mm_go_from (mm_hM n_Mo_told rfl) (And.intro (k_80 I) (mm_rf rfl (q4 c))), trivial⟩
theorem c_Mo_method {ro : mm_Ro} {d nC nF nM : Nat} {c n b : Int32} {h : mm_H} {Q : Value → mm_H → Prop} (I : mm_SH h) (V : mm_MN h nC nF nM) (hb : b = 0 ∨ b = 1)
    (q1 : mm_fz h → Q (.int (-3)) h) (q2 : ¬ mm_fz h → (¬ (0 ≤ c.toInt ∧ c.toInt < (nC : Int)) ∨ ¬ (0 ≤ n.toInt ∧ n.toInt ≤ 5) ∨ ∃ j, j < nM ∧ mm_hit h c n j) → Q (.int (-1)) h)
    (q3 : ¬ mm_fz h → (0 ≤ c.toInt ∧ c.toInt < (nC : Int)) → (0 ≤ n.toInt ∧ n.toInt ≤ 5) → (∀ j, j < nM → ¬ mm_hit h c n j) → nM = 10 → Q (.int (-2)) h)
    (q4 : ¬ mm_fz h → (0 ≤ c.toInt ∧ c.toInt < (nC : Int)) → (0 ≤ n.toInt ∧ n.toInt ≤ 5) → (∀ j, j < nM → ¬ mm_hit h c n j) → nM < 10 → Q (.int (nI nM)) (mm_si (mm_sa (mm_sa (mm_sa (mm_sa (mm_sa h 87 nM c) 88 nM n) 95 nM b) 90 nM (-1)) 93 (4 * nM + 3) (-2)) 578 80 (nI (nM + 1)))) : mm_ev ro (d + 3) n_Mo_method [.ref 80, .int c, .int n, .int b] h Q := by
  refine mm_ev_in (Z := mm_m_Mo_method) rfl rfl (Nat.le_of_ble_eq_true rfl) rfl ?_
  have hM := V.2.2.2.2.2.2
  refine And.intro ⟨rfl, k_80 I⟩ (c_Mo_frozen I (And.intro (fun c_4 => mm_go_from (mm_hM n_Mo_method rfl) ?_) (fun c_4 => q1 (mm_nn c_4))))
  have f := mm_b0.mp c_4
  refine And.intro ⟨rfl, k_80 I⟩ (c_Mo_isC I V (And.intro (fun c_15 => mm_go_from (mm_hM n_Mo_method rfl) (q2 f (Or.inl (mm_b0.mp c_15)))) (fun c_15 => ?_)))
  refine And.intro ⟨rfl, trivial⟩ (c_Mo_within I (And.intro (fun c_24 => mm_go_from (mm_hM n_Mo_method rfl) (q2 f (Or.inr (Or.inl (mm_b0.mp c_24))))) (fun c_24 => ?_)))
  have h1 := mm_nn c_15
  have h2 := mm_nn c_24
  refine And.intro ⟨rfl, k_80 I⟩ (c_Mo_own I V (fun m hm ht _ => And.intro (fun c_33 => ?_) (fun c_33 => q2 f (Or.inr (Or.inr ⟨m, hm, ht⟩)))) (fun hno => And.intro (fun c_33 => mm_go_from (mm_hM n_Mo_method rfl) ?_) (fun c_33 => absurd (show ((-1 : Int32)).toInt < (0 : Int32).toInt by decide) c_33)))
  · have c : (nI m).toInt < (0 : Int32).toInt := c_33
    rw [mm_nt (by omega)] at c
    exact absurd c (by show ¬ (m : Int) < 0; omega)
  · refine And.intro (k_80 I) (mm_rf V.2.2.1 (And.intro (fun c_44 => mm_go_from (mm_hM n_Mo_method rfl) ?_) (fun c_44 => q3 f h1 h2 hno (mm_nee (by omega) (by omega) (mm_no c_44)))))
    have hn : nM < 10 := mm_nel hM (by omega) c_44
    have hB : 0 ≤ (nI nM).toInt ∧ (nI nM).toInt < ((10 : Nat) : Int) := mm_nb hn (by omega)
    have e4 : (4 : Int32) * nI nM + 3 = nI (4 * nM + 3) := by
      rw [show (4 : Int32) = nI 4 from rfl, show (3 : Int32) = nI 3 from rfl, pk_mul, nI_add]
    have hB4 : 0 ≤ ((4 : Int32) * nI nM + 3).toInt ∧ ((4 : Int32) * nI nM + 3).toInt < ((40 : Nat) : Int) := by rw [e4]; exact mm_nb (by omega) (by omega)
    refine And.intro (k_80 I) (mm_rf (r_585 I) (And.intro (k_80 I) (mm_rf V.2.2.1 (And.intro ⟨k_87 I, mm_inb 10 (n_87 I) hB⟩ (And.intro (k_80 I) (mm_rf (r_586 I) (And.intro (k_80 I) (mm_rf V.2.2.1 (And.intro ⟨k_88 I, mm_inb 10 (n_88 I) hB⟩ (And.intro (k_80 I) (mm_rf (r_593 I) (And.intro (k_80 I) (mm_rf V.2.2.1 (And.intro ⟨k_95 I, mm_inb 10 (n_95 I) hB, hb⟩ (And.intro (k_80 I) (mm_rf (r_588 I) (And.intro (k_80 I) (mm_rf V.2.2.1 (And.intro ⟨k_90 I, mm_inb 10 (n_90 I) hB⟩ (And.intro (k_80 I) (mm_rf (r_591 I) (And.intro (k_80 I) (mm_rf V.2.2.1 (And.intro ⟨k_93 I, mm_inb 40 (n_93 I) hB4⟩ (And.intro (k_80 I) (mm_rf V.2.2.1 (And.intro (k_80 I) (And.intro (k_80 I) (mm_rf mm_i1 ?_)))))))))))))))))))))))))))))
    refine mm_qq (q4 f h1 h2 hno hn) ?_ ?_
    · show Value.int (nI nM + 1 - 1) = _
      rw [← nI_succ, nI_pred]
    · show mm_si (mm_sa (mm_sa (mm_sa (mm_sa (mm_sa h 87 (nI nM).toNatClampNeg c) 88 (nI nM).toNatClampNeg n) 95 (nI nM).toNatClampNeg b) 90 (nI nM).toNatClampNeg (-1)) 93 ((4 : Int32) * nI nM + 3).toNatClampNeg (-2)) 578 80 (nI nM + 1) = _
      rw [e4, mm_ncl (by omega), mm_ncl (by omega), ← nI_succ]
end
section
/-- how many parameters, instructions and guards methods have -/
def mm_MA (h : mm_H) (np nl ng : Nat → Nat) : Prop := ∀ m, m < 10 → (mm_a h 89 m = nI (np m) ∧ np m ≤ 3) ∧ (mm_a h 91 m = nI (nl m) ∧ nl m ≤ 20) ∧ (mm_a h 92 m = nI (ng m) ∧ ng m ≤ 2)
theorem mm_lin (k m j : Nat) : nI k * nI m + nI j = nI (k * m + j) := by rw [pk_mul, nI_add]
theorem c_Mo_param {ro : mm_Ro} {d nC nF nM : Nat} {np nl ng : Nat → Nat} {m s b w : Int32} {h : mm_H} {Q : Value → mm_H → Prop} (I : mm_SH h) (V : mm_MN h nC nF nM) (A : mm_MA h np nl ng) (hb : b = 0 ∨ b = 1)
    (q1 : mm_fz h → Q (.int (-3)) h) (q2 : ¬ mm_fz h → ¬ ((0 ≤ m.toInt ∧ m.toInt < (nM : Int)) ∧ mm_sm nC s w) → Q (.int (-1)) h) (q3 : ¬ mm_fz h → ∀ k, k < nM → m = nI k → mm_sm nC s w → np k = 3 → Q (.int (-2)) h)
    (q4 : ¬ mm_fz h → ∀ k, k < nM → m = nI k → mm_sm nC s w → np k < 3 → Q (.int (nI (np k + 1))) (mm_sa (mm_sa (mm_sa (mm_sa h 93 (4 * k + np k) s) 96 (4 * k + np k) b) 94 (4 * k + np k) w) 89 k (nI (np k + 1)))) : mm_ev ro (d + 4) n_Mo_param [.ref 80, .int m, .int s, .int b, .int w] h Q := by
  refine mm_ev_in (Z := mm_m_Mo_param) rfl rfl (Nat.le_of_ble_eq_true rfl) rfl ?_
  have hM := V.2.2.2.2.2.2
  refine And.intro ⟨rfl, k_80 I⟩ (c_Mo_frozen I (And.intro (fun c_4 => mm_go_from (mm_hM n_Mo_param rfl) ?_) (fun c_4 => q1 (mm_nn c_4))))
  have f := mm_b0.mp c_4
  refine And.intro ⟨rfl, k_80 I⟩ (c_Mo_isM I V (And.intro (fun c_15 => mm_go_from (mm_hM n_Mo_param rfl) (q2 f (fun q => mm_b0.mp c_15 q.1))) (fun c_15 => ?_)))
  refine And.intro ⟨rfl, k_80 I⟩ (c_Mo_says I V (And.intro (fun c_25 => mm_go_from (mm_hM n_Mo_param rfl) ?_) (fun c_25 => q2 f (fun q => mm_nb0 c_25 q.2))))
  obtain ⟨k, hk, rfl⟩ := mm_of (mm_nn c_15)
  have h2 := mm_nn c_25
  have hk10 : k < 10 := by omega
  have hc : (nI k).toNatClampNeg = k := mm_ncl (by omega)
  have hB : 0 ≤ (nI k).toInt ∧ (nI k).toInt < ((10 : Nat) : Int) := mm_nb hk10 (by omega)
  have e0 : mm_a h 89 (nI k).toNatClampNeg = nI (np k) := by rw [hc]; exact (A k hk10).1.1
  refine And.intro (k_80 I) (mm_rf (r_587 I) (And.intro ⟨k_89 I, mm_inb 10 (n_89 I) hB⟩ (mm_rf e0 (And.intro (fun c_37 => mm_go_from (mm_hM n_Mo_param rfl) ?_) (fun c_37 => q3 f k hk rfl h2 (mm_nee (by have := (A k hk10).1.2; omega) (by omega) (mm_no c_37)))))))
  have hp : np k < 3 := mm_nel (A k hk10).1.2 (by omega) c_37
  refine And.intro (k_80 I) (mm_rf (r_587 I) (And.intro ⟨k_89 I, mm_inb 10 (n_89 I) hB⟩ (mm_rf e0 (And.intro ⟨rfl, k_80 I⟩ ?_))))
  show mm_ev ro _ n_Mo_say [.ref 80, .int (nI 4 * nI k + nI (np k)), .int s, .int b, .int w] h _
  rw [mm_lin]
  refine c_Mo_say I (by omega) hb (And.intro (k_80 I) (mm_rf (r_587 I) (And.intro ⟨k_89 I, mm_inb 10 (n_89 I) hB⟩ (mm_rf e0 (And.intro ⟨k_89 I, mm_inb 10 (n_89 I) hB⟩ (And.intro (k_80 I) (mm_rf (r_587 I) (And.intro ⟨k_89 I, mm_inb 10 (n_89 I) hB⟩ (mm_rf mm_a1 ?_)))))))))
  refine mm_qq (q4 f k hk rfl h2 hp) ?_ ?_
  · show Value.int (nI (np k) + 1) = _
    rw [← nI_succ]
  · show mm_sa (mm_sa (mm_sa (mm_sa h 93 (4 * k + np k) s) 96 (4 * k + np k) b) 94 (4 * k + np k) w) 89 (nI k).toNatClampNeg (nI (np k) + 1) = _
    rw [hc, ← nI_succ]
theorem mm_m2 {s : Int32} : s = Int32.ofInt (-2) ↔ s.toInt = -2 := by
  constructor
  · intro e; rw [e]; decide
  · intro e; exact Int32.toInt_inj.mp (e.trans (by decide))
theorem c_Mo_result {ro : mm_Ro} {d nC nF nM : Nat} {m s b w : Int32} {h : mm_H} {Q : Value → mm_H → Prop} (I : mm_SH h) (V : mm_MN h nC nF nM) (hb : b = 0 ∨ b = 1)
    (q1 : (mm_fz h ∨ ¬ (0 ≤ m.toInt ∧ m.toInt < (nM : Int)) ∨ ¬ (0 ≤ w.toInt ∧ w.toInt ≤ 15) ∨ ¬ (s.toInt = -2 ∨ mm_sm nC s w)) → Q (.int 0) h)
    (q2 : ¬ mm_fz h → ∀ k, k < nM → m = nI k → (0 ≤ w.toInt ∧ w.toInt ≤ 15) → (s.toInt = -2 ∨ mm_sm nC s w) → Q (.int 1) (mm_sa (mm_sa (mm_sa h 93 (4 * k + 3) s) 96 (4 * k + 3) b) 94 (4 * k + 3) w)) : mm_ev ro (d + 4) n_Mo_result [.ref 80, .int m, .int s, .int b, .int w] h Q := by
  refine mm_ev_in (Z := mm_m_Mo_result) rfl rfl (Nat.le_of_ble_eq_true rfl) rfl ?_
  have hM := V.2.2.2.2.2.2
  refine And.intro ⟨rfl, k_80 I⟩ (c_Mo_frozen I (And.intro (fun c_4 => mm_go_from (mm_hM n_Mo_result rfl) ⟨Or.inl rfl, q1 (Or.inl (mm_nn c_4))⟩) (fun c_4 => ?_)))
  have f := mm_nb0 c_4
  refine And.intro ⟨rfl, k_80 I⟩ (c_Mo_isM I V (And.intro (fun c_12 => mm_go_from (mm_hM n_Mo_result rfl) ⟨Or.inl rfl, q1 (Or.inr (Or.inl (mm_b0.mp c_12)))⟩) (fun c_12 => ?_)))
  refine And.intro ⟨rfl, trivial⟩ (c_Mo_within I (And.intro (fun c_23 => mm_go_from (mm_hM n_Mo_result rfl) ⟨Or.inl rfl, q1 (Or.inr (Or.inr (Or.inl (mm_b0.mp c_23))))⟩) (fun c_23 => ?_)))
  obtain ⟨k, hk, rfl⟩ := mm_of (mm_nn c_12)
  have hw := mm_nn c_23
  have fin : (s.toInt = -2 ∨ mm_sm nC s w) → mm_go ro (d + 3) mm_m_Mo_result 44 [.ref 80, .int (nI k), .int s, .int b, .int w] [] h Q := by
    intro hs
    refine mm_go_from (mm_hM n_Mo_result rfl) (And.intro ⟨rfl, k_80 I⟩ ?_)
    show mm_ev ro _ n_Mo_say [.ref 80, .int (nI 4 * nI k + nI 3), .int s, .int b, .int w] h _
    rw [mm_lin]
    exact c_Mo_say I (by omega) hb ⟨Or.inr rfl, q2 f k hk rfl hw hs⟩
  refine And.intro (fun c_29 => fin (Or.inl (mm_m2.mp c_29))) (fun c_29 => ?_)
  refine And.intro ⟨rfl, k_80 I⟩ (c_Mo_says I V (And.intro (fun c_39 => fin (Or.inr (mm_nn c_39))) (fun c_39 => ⟨Or.inl rfl, q1 (Or.inr (Or.inr (Or.inr (fun q => ?_))))⟩)))
  rcases q with q | q
  · exact c_29 (mm_m2.mpr q)
  · exact mm_nb0 c_39 q
theorem c_Mo_guard {ro : mm_Ro} {d nC nF nM : Nat} {np nl ng : Nat → Nat} {m x y z : Int32} {h : mm_H} {Q : Value → mm_H → Prop} (I : mm_SH h) (V : mm_MN h nC nF nM) (A : mm_MA h np nl ng)
    (q1 : mm_fz h → Q (.int (-3)) h) (q2 : ¬ mm_fz h → ¬ ((0 ≤ m.toInt ∧ m.toInt < (nM : Int)) ∧ (0 ≤ x.toInt ∧ x.toInt ≤ 19) ∧ (x.toInt ≤ y.toInt ∧ y.toInt ≤ 19) ∧ (0 ≤ z.toInt ∧ z.toInt ≤ 19)) → Q (.int (-1)) h)
    (q3 : ¬ mm_fz h → ∀ k, k < nM → m = nI k → ((0 ≤ x.toInt ∧ x.toInt ≤ 19) ∧ (x.toInt ≤ y.toInt ∧ y.toInt ≤ 19) ∧ (0 ≤ z.toInt ∧ z.toInt ≤ 19)) → ng k = 2 → Q (.int (-2)) h)
    (q4 : ¬ mm_fz h → ∀ k, k < nM → m = nI k → ((0 ≤ x.toInt ∧ x.toInt ≤ 19) ∧ (x.toInt ≤ y.toInt ∧ y.toInt ≤ 19) ∧ (0 ≤ z.toInt ∧ z.toInt ≤ 19)) → ng k < 2 → Q (.int (nI (ng k + 1))) (mm_sa (mm_sa (mm_sa (mm_sa h 99 (2 * k + ng k) x) 100 (2 * k + ng k) y) 101 (2 * k + ng k) z) 92 k (nI (ng k + 1)))) : mm_ev ro (d + 3) n_Mo_guard [.ref 80, .int m, .int x, .int y, .int z] h Q := by
  refine mm_ev_in (Z := mm_m_Mo_guard) rfl rfl (Nat.le_of_ble_eq_true rfl) rfl ?_
  have hM := V.2.2.2.2.2.2
  refine And.intro ⟨rfl, k_80 I⟩ (c_Mo_frozen I (And.intro (fun c_4 => mm_go_from (mm_hM n_Mo_guard rfl) ?_) (fun c_4 => q1 (mm_nn c_4))))
  have f := mm_b0.mp c_4
  refine And.intro ⟨rfl, k_80 I⟩ (c_Mo_isM I V (And.intro (fun c_15 => mm_go_from (mm_hM n_Mo_guard rfl) (q2 f (fun q => mm_b0.mp c_15 q.1))) (fun c_15 => ?_)))
  refine And.intro ⟨rfl, trivial⟩ (c_Mo_within I (And.intro (fun c_25 => mm_go_from (mm_hM n_Mo_guard rfl) (q2 f (fun q => mm_b0.mp c_25 q.2.1))) (fun c_25 => ?_)))
  refine And.intro ⟨rfl, trivial⟩ (c_Mo_within I (And.intro (fun c_35 => mm_go_from (mm_hM n_Mo_guard rfl) (q2 f (fun q => mm_b0.mp c_35 q.2.2.1))) (fun c_35 => ?_)))
  refine And.intro ⟨rfl, trivial⟩ (c_Mo_within I (And.intro (fun c_46 => mm_go_from (mm_hM n_Mo_guard rfl) ?_) (fun c_46 => q2 f (fun q => mm_nb0 c_46 q.2.2.2))))
  obtain ⟨k, hk, rfl⟩ := mm_of (mm_nn c_15)
  have hall : (0 ≤ x.toInt ∧ x.toInt ≤ 19) ∧ (x.toInt ≤ y.toInt ∧ y.toInt ≤ 19) ∧ (0 ≤ z.toInt ∧ z.toInt ≤ 19) := ⟨mm_nn c_25, mm_nn c_35, mm_nn c_46⟩
  have hk10 : k < 10 := by omega
  have hc : (nI k).toNatClampNeg = k := mm_ncl (by omega)
  have hB : 0 ≤ (nI k).toInt ∧ (nI k).toInt < ((10 : Nat) : Int) := mm_nb hk10 (by omega)
  have e0 : mm_a h 92 (nI k).toNatClampNeg = nI (ng k) := by rw [hc]; exact (A k hk10).2.2.1
  refine And.intro (k_80 I) (mm_rf (r_590 I) (And.intro ⟨k_92 I, mm_inb 10 (n_92 I) hB⟩ (mm_rf e0 (And.intro (fun c_58 => mm_go_from (mm_hM n_Mo_guard rfl) ?_) (fun c_58 => q3 f k hk rfl hall (mm_nee (by have := (A k hk10).2.2.2; omega) (by omega) (mm_no c_58)))))))
  have hg : ng k < 2 := mm_nel (A k hk10).2.2.2 (by omega) c_58
  have eg : (2 : Int32) * nI k + nI (ng k) = nI (2 * k + ng k) := mm_lin 2 k (ng k)
  have hcg : ((2 : Int32) * nI k + nI (ng k)).toNatClampNeg = 2 * k + ng k := by rw [eg]; exact mm_ncl (by omega)
  have hBg : 0 ≤ ((2 : Int32) * nI k + nI (ng k)).toInt ∧ ((2 : Int32) * nI k + nI (ng k)).toInt < ((20 : Nat) : Int) := by rw [eg]; exact mm_nb (by omega) (by omega)
  refine And.intro (k_80 I) (mm_rf (r_590 I) (And.intro ⟨k_92 I, mm_inb 10 (n_92 I) hB⟩ (mm_rf e0 (And.intro (k_80 I) (mm_rf (r_597 I) (And.intro ⟨k_99 I, mm_inb 20 (n_99 I) hBg⟩ (And.intro (k_80 I) (mm_rf (r_598 I) (And.intro ⟨k_100 I, mm_inb 20 (n_100 I) hBg⟩ (And.intro (k_80 I) (mm_rf (r_599 I) (And.intro ⟨k_101 I, mm_inb 20 (n_101 I) hBg⟩ (And.intro (k_80 I) (mm_rf (r_590 I) (And.intro ⟨k_92 I, mm_inb 10 (n_92 I) hB⟩ (mm_rf e0 (And.intro ⟨k_92 I, mm_inb 10 (n_92 I) hB⟩ (And.intro (k_80 I) (mm_rf (r_590 I) (And.intro ⟨k_92 I, mm_inb 10 (n_92 I) hB⟩ (mm_rf mm_a1 ?_)))))))))))))))))))))
  refine mm_qq (q4 f k hk rfl hall hg) ?_ ?_
  · show Value.int (nI (ng k) + 1) = _
    rw [← nI_succ]
  · show mm_sa (mm_sa (mm_sa (mm_sa h 99 ((2 : Int32) * nI k + nI (ng k)).toNatClampNeg x) 100 ((2 : Int32) * nI k + nI (ng k)).toNatClampNeg y) 101 ((2 : Int32) * nI k + nI (ng k)).toNatClampNeg z) 92 (nI k).toNatClampNeg (nI (ng k) + 1) = _
    rw [hc, hcg, ← nI_succ]
end
section
/-- what an instruction's argument must be -/
def mm_arg (nC nF nM : Nat) (o a : Int) : Prop := ((o = 2 ∨ o = 3) → 0 ≤ a ∧ a ≤ 5) ∧ ((o = 7 ∨ o = 12) → 0 ≤ a ∧ a < (nC : Int)) ∧ ((o = 9 ∨ o = 10) → 0 ≤ a ∧ a < (nF : Int)) ∧ (o = 11 → 0 ≤ a ∧ a < (nM : Int)) ∧ ((13 ≤ o ∧ o ≤ 15) → 0 ≤ a ∧ a ≤ 19)
theorem mm_eI {o : Int32} {k : Int} (hk : (Int32.ofInt k).toInt = k) : o = Int32.ofInt k ↔ o.toInt = k := by
  constructor
  · intro e; rw [e]; exact hk
  · intro e; exact Int32.toInt_inj.mp (e.trans hk.symm)
theorem c_Mo_add {ro : mm_Ro} {d nC nF nM : Nat} {np nl ng : Nat → Nat} {m o a : Int32} {h : mm_H} {Q : Value → mm_H → Prop} (I : mm_SH h) (V : mm_MN h nC nF nM) (A : mm_MA h np nl ng)
    (q1 : mm_fz h → Q (.int (-3)) h) (q2 : ¬ mm_fz h → ¬ ((0 ≤ m.toInt ∧ m.toInt < (nM : Int)) ∧ (0 ≤ o.toInt ∧ o.toInt ≤ 17) ∧ mm_arg nC nF nM o.toInt a.toInt) → Q (.int (-1)) h)
    (q3 : ¬ mm_fz h → ∀ k, k < nM → m = nI k → (0 ≤ o.toInt ∧ o.toInt ≤ 17) → mm_arg nC nF nM o.toInt a.toInt → nl k = 20 → Q (.int (-2)) h)
    (q4 : ¬ mm_fz h → ∀ k, k < nM → m = nI k → (0 ≤ o.toInt ∧ o.toInt ≤ 17) → mm_arg nC nF nM o.toInt a.toInt → nl k < 20 → Q (.int (nI (nl k + 1))) (mm_sa (mm_sa (mm_sa h 97 (20 * k + nl k) o) 98 (20 * k + nl k) a) 91 k (nI (nl k + 1)))) : mm_ev ro (d + 3) n_Mo_add [.ref 80, .int m, .int o, .int a] h Q := by
  refine mm_ev_in (Z := mm_m_Mo_add) rfl rfl (Nat.le_of_ble_eq_true rfl) rfl ?_
  have hM := V.2.2.2.2.2.2
  have hC := V.2.2.2.2.1
  have hF := V.2.2.2.2.2.1
  refine And.intro ⟨rfl, k_80 I⟩ (c_Mo_frozen I (And.intro (fun c_4 => mm_go_from (mm_hM n_Mo_add rfl) ?_) (fun c_4 => q1 (mm_nn c_4))))
  have f := mm_b0.mp c_4
  refine And.intro ⟨rfl, k_80 I⟩ (c_Mo_isM I V (And.intro (fun c_15 => mm_go_from (mm_hM n_Mo_add rfl) (q2 f (fun q => mm_b0.mp c_15 q.1))) (fun c_15 => ?_)))
  refine And.intro ⟨rfl, trivial⟩ (c_Mo_within I (And.intro (fun c_25 => mm_go_from (mm_hM n_Mo_add rfl) ?_) (fun c_25 => q2 f (fun q => mm_nb0 c_25 q.2.1))))
  obtain ⟨k, hk, rfl⟩ := mm_of (mm_nn c_15)
  have ho : 0 ≤ o.toInt ∧ o.toInt ≤ 17 := mm_nn c_25
  have hk10 : k < 10 := by omega
  have hc : (nI k).toNatClampNeg = k := mm_ncl (by omega)
  have hB : 0 ≤ (nI k).toInt ∧ (nI k).toInt < ((10 : Nat) : Int) := mm_nb hk10 (by omega)
  have e0 : mm_a h 91 (nI k).toNatClampNeg = nI (nl k) := by rw [hc]; exact (A k hk10).2.1.1
  have fin : mm_arg nC nF nM o.toInt a.toInt → ∀ w : Value, mm_go ro (d + 2) mm_m_Mo_add 141 [.ref 80, .int (nI k), .int o, .int a, w] [] h Q := by
    intro hv w
    refine mm_go_from (mm_hM n_Mo_add rfl) (And.intro (k_80 I) (mm_rf (r_589 I) (And.intro ⟨k_91 I, mm_inb 10 (n_91 I) hB⟩ (mm_rf e0 (And.intro (fun c_149 => mm_go_from (mm_hM n_Mo_add rfl) ?_) (fun c_149 => q3 f k hk rfl ho hv (mm_nee (by have := (A k hk10).2.1.2; omega) (by omega) (mm_no c_149))))))))
    have hl : nl k < 20 := mm_nel (A k hk10).2.1.2 (by omega) c_149
    have eg : (20 : Int32) * nI k + nI (nl k) = nI (20 * k + nl k) := mm_lin 20 k (nl k)
    have hcg : ((20 : Int32) * nI k + nI (nl k)).toNatClampNeg = 20 * k + nl k := by rw [eg]; exact mm_ncl (by omega)
    have hBg : 0 ≤ ((20 : Int32) * nI k + nI (nl k)).toInt ∧ ((20 : Int32) * nI k + nI (nl k)).toInt < ((200 : Nat) : Int) := by rw [eg]; exact mm_nb (by omega) (by omega)
    refine And.intro (k_80 I) (mm_rf (r_595 I) (And.intro (k_80 I) (mm_rf (r_589 I) (And.intro ⟨k_91 I, mm_inb 10 (n_91 I) hB⟩ (mm_rf e0 (And.intro ⟨k_97 I, mm_inb 200 (n_97 I) hBg⟩ (And.intro (k_80 I) (mm_rf (r_596 I) (And.intro (k_80 I) (mm_rf (r_589 I) (And.intro ⟨k_91 I, mm_inb 10 (n_91 I) hB⟩ (mm_rf e0 (And.intro ⟨k_98 I, mm_inb 200 (n_98 I) hBg⟩ (And.intro (k_80 I) (mm_rf (r_589 I) (And.intro ⟨k_91 I, mm_inb 10 (n_91 I) hB⟩ (mm_rf e0 (And.intro ⟨k_91 I, mm_inb 10 (n_91 I) hB⟩ (And.intro (k_80 I) (mm_rf (r_589 I) (And.intro ⟨k_91 I, mm_inb 10 (n_91 I) hB⟩ (mm_rf mm_a1 ?_))))))))))))))))))))))
    refine mm_qq (q4 f k hk rfl ho hv hl) ?_ ?_
    · show Value.int (nI (nl k) + 1) = _
      rw [← nI_succ]
    · show mm_sa (mm_sa (mm_sa h 97 ((20 : Int32) * nI k + nI (nl k)).toNatClampNeg o) 98 ((20 : Int32) * nI k + nI (nl k)).toNatClampNeg a) 91 (nI k).toNatClampNeg (nI (nl k) + 1) = _
      rw [hc, hcg, ← nI_succ]
  have bad : ¬ mm_arg nC nF nM o.toInt a.toInt → Q (.int (-1)) h := fun q => q2 f (fun z => q z.2.2)
  have tl : ∀ mo : Int32, -2 ≤ mo.toInt → ((mo.toInt = -2 ∨ (0 ≤ a.toInt ∧ a.toInt ≤ mo.toInt)) ↔ mm_arg nC nF nM o.toInt a.toInt) → mm_go ro (d + 2) mm_m_Mo_add 120 [.ref 80, .int (nI k), .int o, .int a, .null] [.int mo] h Q := by
    intro mo h1 h2
    refine mm_go_from (mm_hM n_Mo_add rfl) (And.intro (fun c_126 => fin (h2.mp (Or.inl ?_)) _) (fun c_126 => ?_))
    · have c : mo.toInt ≤ -2 := c_126
      omega
    · have c : ¬ mo.toInt ≤ -2 := c_126
      refine And.intro ⟨rfl, trivial⟩ (c_Mo_within I (And.intro (fun c_136 => fin (h2.mp (Or.inr (mm_nn c_136))) _) (fun c_136 => bad (fun q => ?_))))
      rcases h2.mpr q with z | z
      · omega
      · exact mm_nb0 c_136 z
  have E : ∀ j : Int, (Int32.ofInt j).toInt = j → (o = Int32.ofInt j ↔ o.toInt = j) := fun j hj => mm_eI hj
  have p1 : ∀ n : Nat, n ≤ 12 → (nI n - Int32.ofInt 1).toInt = (n : Int) - 1 := fun n hn => mm_prd (by omega)
  -- which instruction
  have lv : ∀ j : Int, (Int8.ofInt j).toInt32 = Int32.ofInt j → True := fun _ _ => trivial
  refine And.intro (fun c_32 => mm_go_from (mm_hM n_Mo_add rfl) (tl (Int32.ofInt 5) (by decide) ?_)) (fun c_32 => ?_)
  · have c : o.toInt = 2 := (E 2 (by decide)).mp c_32
    unfold mm_arg
    rw [show (Int32.ofInt 5).toInt = 5 by decide]
    omega
  have n2 : ¬ o.toInt = 2 := fun z => c_32 ((E 2 (by decide)).mpr z)
  have ops7 : (o.toInt = 7 ∨ o.toInt = 12) → mm_go ro (d + 2) mm_m_Mo_add 56 [.ref 80, .int (nI k), .int o, .int a, .null] [] h Q := by
    intro hq
    refine mm_go_from (mm_hM n_Mo_add rfl) (And.intro (k_80 I) (mm_rf V.1 (tl (nI nC - Int32.ofInt 1) (by rw [p1 nC (by omega)]; omega) ?_)))
    rw [p1 nC (by omega)]
    unfold mm_arg
    omega
  have ops9 : (o.toInt = 9 ∨ o.toInt = 10) → mm_go ro (d + 2) mm_m_Mo_add 77 [.ref 80, .int (nI k), .int o, .int a, .null] [] h Q := by
    intro hq
    refine mm_go_from (mm_hM n_Mo_add rfl) (And.intro (k_80 I) (mm_rf V.2.1 (tl (nI nF - Int32.ofInt 1) (by rw [p1 nF (by omega)]; omega) ?_)))
    rw [p1 nF (by omega)]
    unfold mm_arg
    omega
  have none : ¬ (o.toInt = 2 ∨ o.toInt = 3 ∨ o.toInt = 7 ∨ o.toInt = 12 ∨ o.toInt = 9 ∨ o.toInt = 10 ∨ o.toInt = 11 ∨ (13 ≤ o.toInt ∧ o.toInt ≤ 15)) → mm_go ro (d + 2) mm_m_Mo_add 118 [.ref 80, .int (nI k), .int o, .int a, .null] [] h Q := by
    intro hq
    refine mm_go_at 120 (mm_hM n_Mo_add rfl) (tl (Int8.ofInt (-2)).toInt32 (by decide) ?_)
    rw [show ((Int8.ofInt (-2)).toInt32).toInt = -2 by decide]
    unfold mm_arg
    omega
  refine And.intro (fun c_37 => mm_go_from (mm_hM n_Mo_add rfl) ?_) (fun c_37 => tl (Int32.ofInt 5) (by decide) ?_)
  · have n3 : ¬ o.toInt = 3 := fun z => c_37 ((E 3 (by decide)).mpr z)
    refine And.intro (fun c_47 => ops7 (Or.inl ((E 7 (by decide)).mp c_47))) (fun c_47 => ?_)
    have n7 : ¬ o.toInt = 7 := fun z => c_47 ((E 7 (by decide)).mpr z)
    refine And.intro (fun c_53 => mm_go_from (mm_hM n_Mo_add rfl) ?_) (fun c_53 => ?_)
    · have n12 : ¬ o.toInt = 12 := fun z => c_53 ((E 12 (by decide)).mpr z)
      refine And.intro (fun c_68 => ops9 (Or.inl ((E 9 (by decide)).mp c_68))) (fun c_68 => ?_)
      have n9 : ¬ o.toInt = 9 := fun z => c_68 ((E 9 (by decide)).mpr z)
      refine And.intro (fun c_74 => mm_go_from (mm_hM n_Mo_add rfl) ?_) (fun c_74 => ?_)
      · have n10 : ¬ o.toInt = 10 := fun z => c_74 ((E 10 (by decide)).mpr z)
        refine And.intro (fun c_89 => mm_go_from (mm_hM n_Mo_add rfl) ?_) (fun c_89 => ?_)
        · have n11 : ¬ o.toInt = 11 := fun z => c_89 ((E 11 (by decide)).mpr z)
          refine And.intro (fun c_104 => none ?_) (fun c_104 => ?_)
          · have c : o.toInt < 13 := c_104
            omega
          · have c : ¬ o.toInt < 13 := c_104
            refine And.intro (fun c_110 => none ?_) (fun c_110 => ?_)
            · have c2 : 15 < o.toInt := c_110
              omega
            · have c2 : ¬ 15 < o.toInt := c_110
              refine tl (Int8.ofInt 19).toInt32 (by decide) ?_
              rw [show ((Int8.ofInt 19).toInt32).toInt = 19 by decide]
              unfold mm_arg
              omega
        · have c : o.toInt = 11 := (E 11 (by decide)).mp (mm_no c_89)
          refine And.intro (k_80 I) (mm_rf V.2.2.1 (tl (nI nM - Int32.ofInt 1) (by rw [p1 nM (by omega)]; omega) ?_))
          rw [p1 nM (by omega)]
          unfold mm_arg
          omega
      · have c : o.toInt = 10 := (E 10 (by decide)).mp (mm_no c_74)
        refine And.intro (k_80 I) (mm_rf V.2.1 (tl (nI nF - Int32.ofInt 1) (by rw [p1 nF (by omega)]; omega) ?_))
        rw [p1 nF (by omega)]
        unfold mm_arg
        omega
    · have c : o.toInt = 12 := (E 12 (by decide)).mp (mm_no c_53)
      refine And.intro (k_80 I) (mm_rf V.1 (tl (nI nC - Int32.ofInt 1) (by rw [p1 nC (by omega)]; omega) ?_))
      rw [p1 nC (by omega)]
      unfold mm_arg
      omega
  · have c : o.toInt = 3 := (E 3 (by decide)).mp (mm_no c_37)
    rw [show (Int32.ofInt 5).toInt = 5 by decide]
    unfold mm_arg
    omega
end
section
/-! THE CLASS: its stock -/
def mm_XN (h : mm_H) (nC nF nM : Nat) : Prop := mm_i h 64 2 = nI nC ∧ mm_i h 69 2 = nI nF ∧ mm_i h 72 2 = nI nM ∧ 1 ≤ nC ∧ nC ≤ 6 ∧ nF ≤ 12 ∧ nM ≤ 10
/-- a Method with its parts -/
def mm_ME (h : mm_H) (q : Nat) : Prop := (mm_k h q = 9 ∧ mm_r h 515 q = q + 1 ∧ mm_k h (q + 1) = 22 ∧ mm_n h (q + 1) = 3) ∧ (mm_r h 517 q = q + 2 ∧ mm_k h (q + 2) = 8) ∧ (mm_r h 519 q = q + 3 ∧ mm_k h (q + 3) = 20 ∧ mm_n h (q + 3) = 20) ∧ (mm_r h 520 q = q + 4 ∧ mm_k h (q + 4) = 20 ∧ mm_n h (q + 4) = 20) ∧ (mm_r h 522 q = q + 5 ∧ mm_k h (q + 5) = 20 ∧ mm_n h (q + 5) = 2) ∧ (mm_r h 523 q = q + 6 ∧ mm_k h (q + 6) = 20 ∧ mm_n h (q + 6) = 2) ∧ (mm_r h 524 q = q + 7 ∧ mm_k h (q + 7) = 20 ∧ mm_n h (q + 7) = 2)
def mm_XM (h : mm_H) (nM : Nat) (qm : Nat → Nat) : Prop := ∀ m, m < nM → mm_q h 8 m = qm m ∧ mm_ME h (qm m)
theorem c_St_isClass {ro : mm_Ro} {d nC nF nM : Nat} {x : Int32} {h : mm_H} {Q : Value → mm_H → Prop} (I : mm_SH h) (V : mm_XN h nC nF nM) (hQ : Q (.int (mm_b (0 ≤ x.toInt ∧ x.toInt < (nC : Int)))) h) : mm_ev ro (d + 2) n_St_isClass [.ref 2, .int x] h Q := by
  refine mm_ev_in (Z := mm_m_St_isClass) rfl rfl (Nat.le_of_ble_eq_true rfl) rfl ?_
  refine And.intro (k_2 I) (mm_rf V.1 (And.intro ⟨rfl, trivial⟩ (c_Ga_within I ⟨mm_b01 _, mm_qe hQ (mm_b_iff ?_)⟩)))
  rw [mm_nt (by have := V.2.2.2.2.1; omega)]
theorem c_St_isMethod {ro : mm_Ro} {d nC nF nM : Nat} {x : Int32} {h : mm_H} {Q : Value → mm_H → Prop} (I : mm_SH h) (V : mm_XN h nC nF nM) (hQ : Q (.int (mm_b (0 ≤ x.toInt ∧ x.toInt < (nM : Int)))) h) : mm_ev ro (d + 2) n_St_isMethod [.ref 2, .int x] h Q := by
  refine mm_ev_in (Z := mm_m_St_isMethod) rfl rfl (Nat.le_of_ble_eq_true rfl) rfl ?_
  refine And.intro (k_2 I) (mm_rf V.2.2.1 (And.intro ⟨rfl, trivial⟩ (c_Ga_within I ⟨mm_b01 _, mm_qe hQ (mm_b_iff ?_)⟩)))
  rw [mm_nt (by have := V.2.2.2.2.2.2; omega)]
theorem c_St_isPlace {ro : mm_Ro} {d nC nF nM : Nat} {s w : Int32} {h : mm_H} {Q : Value → mm_H → Prop} (I : mm_SH h) (V : mm_XN h nC nF nM) (hQ : Q (.int (mm_b (mm_sm nC s w))) h) : mm_ev ro (d + 3) n_St_isPlace [.ref 2, .int s, .int w] h Q := by
  refine mm_ev_in (Z := mm_m_St_isPlace) rfl rfl (Nat.le_of_ble_eq_true rfl) rfl ?_
  have w16 : ∀ z : Int32, (0 ≤ z.toInt ∧ z.toInt < ((Int8.ofInt 16).toInt32).toInt) ↔ (0 ≤ z.toInt ∧ z.toInt ≤ 15) := by
    intro z
    rw [show ((Int8.ofInt 16).toInt32).toInt = 16 by decide]
    omega
  have fin : (s.toInt = -1 ∨ 0 ≤ s.toInt ∧ s.toInt < (nC : Int)) → mm_go ro (d + 2) mm_m_St_isPlace 13 [.ref 2, .int s, .int w] [] h Q := by
    intro hs
    refine mm_go_from (mm_hM n_St_isPlace rfl) (And.intro ⟨rfl, trivial⟩ (c_Ga_within I (And.intro (fun c_19 => mm_go_from (mm_hM n_St_isPlace rfl) ⟨Or.inl rfl, mm_qe hQ (mm_b_f (fun q => mm_b0.mp c_19 ((w16 w).mpr q.2)))⟩) (fun c_19 => mm_go_from (mm_hM n_St_isPlace rfl) ⟨Or.inr rfl, mm_qe hQ (mm_b_t ⟨hs, (w16 w).mp (mm_nn c_19)⟩)⟩))))
  refine And.intro (fun c_2 => fin (Or.inl (mm_m1.mp c_2))) (fun c_2 => ?_)
  refine And.intro ⟨rfl, k_2 I⟩ (c_St_isClass I V (And.intro (fun c_10 => mm_go_from (mm_hM n_St_isPlace rfl) ⟨Or.inl rfl, mm_qe hQ (mm_b_f (fun q => ?_))⟩) (fun c_10 => ?_)))
  · rcases q.1 with q1 | q1
    · exact c_2 (mm_m1.mpr q1)
    · exact mm_b0.mp c_10 q1
  · refine And.intro ⟨rfl, trivial⟩ (c_Ga_within I (And.intro (fun c_19 => mm_go_from (mm_hM n_St_isPlace rfl) ⟨Or.inl rfl, mm_qe hQ (mm_b_f (fun q => mm_b0.mp c_19 ((w16 w).mpr q.2)))⟩) (fun c_19 => mm_go_from (mm_hM n_St_isPlace rfl) ⟨Or.inr rfl, mm_qe hQ (mm_b_t ⟨Or.inr (mm_nn c_10), (w16 w).mp (mm_nn c_19)⟩)⟩)))
/-- method m of the class, as an object, is of this class and name -/
def mm_hix (h : mm_H) (qm : Nat → Nat) (x n : Int32) (j : Nat) : Prop := mm_i h 512 (qm j) = x ∧ mm_i h 513 (qm j) = n
theorem l_St_own {ro : mm_Ro} {d nC nF nM : Nat} {qm : Nat → Nat} {x n : Int32} {h : mm_H} {Q : Value → mm_H → Prop} (I : mm_SH h) (V : mm_XN h nC nF nM) (E : mm_XM h nM qm) (q1 : ∀ m, m < nM → mm_hix h qm x n m → (∀ j, j < m → ¬ mm_hix h qm x n j) → Q (.ref (qm m)) h) (q2 : (∀ j, j < nM → ¬ mm_hix h qm x n j) → Q (.ref 0) h) : ∀ (k m : Nat), m + k = nM → (∀ j, j < m → ¬ mm_hix h qm x n j) → mm_go ro d mm_m_St_own 2 [.ref 2, .int x, .int n, .int (nI m)] [] h Q := by
  intro k
  have hM := V.2.2.2.2.2.2
  induction k with
  | zero =>
    intro m hm hj
    refine mm_go_from (mm_hM n_St_own rfl) (And.intro (k_2 I) (mm_rf V.2.2.1 (And.intro (fun c_7 => mm_go_from (mm_hM n_St_own rfl) ?_) (fun c_7 => ?_))))
    · exact q2 (fun j hjm => hj j (by omega))
    · exact absurd (show (nI nM).toInt ≤ (nI m).toInt by rw [mm_nt (by omega), mm_nt (by omega)]; omega) c_7
  | succ k ih =>
    intro m hm hj
    have nxt : ¬ mm_hix h qm x n m → mm_go ro d mm_m_St_own 2 [.ref 2, .int x, .int n, .int (nI m + 1)] [] h Q := by
      intro hn
      have := ih (m + 1) (by omega) (fun j hjm => by
        rcases Nat.lt_or_ge j m with q | q
        · exact hj j q
        · rw [show j = m by omega]; exact hn)
      rw [nI_succ] at this
      exact this
    have hb : 0 ≤ (nI m).toInt ∧ (nI m).toInt < ((10 : Nat) : Int) := mm_nb (by omega) (by omega)
    have hc : (nI m).toNatClampNeg = m := mm_ncl (by omega)
    have hq : mm_q h 8 (nI m).toNatClampNeg = qm m := by rw [hc]; exact (E m (by omega)).1
    have hme := (E m (by omega)).2
    have k8 : 22 ≤ mm_k h 8 ∧ mm_k h 8 < 26 := by rw [k_8 I]; decide
    refine mm_go_from (mm_hM n_St_own rfl) (And.intro (k_2 I) (mm_rf V.2.2.1 (And.intro (fun c_7 => ?_) (fun c_7 => ?_))))
    · have c : (nI nM).toInt ≤ (nI m).toInt := c_7
      rw [mm_nt (by omega), mm_nt (by omega)] at c
      omega
    · refine And.intro (k_2 I) (mm_rf (r_73 I) (And.intro ⟨k8, mm_inb 10 (n_8 I) hb⟩ (mm_rf hq (And.intro hme.1.1 (mm_rf rfl (And.intro (fun c_20 => mm_go_from (mm_hM n_St_own rfl) (nxt (fun q => c_20 q.1))) (fun c_20 => ?_)))))))
      refine And.intro (k_2 I) (mm_rf (r_73 I) (And.intro ⟨k8, mm_inb 10 (n_8 I) hb⟩ (mm_rf hq (And.intro hme.1.1 (mm_rf rfl (And.intro (fun c_33 => mm_go_from (mm_hM n_St_own rfl) (nxt (fun q => c_33 q.2))) (fun c_33 => ?_)))))))
      exact And.intro (k_2 I) (mm_rf (r_73 I) (And.intro ⟨k8, mm_inb 10 (n_8 I) hb⟩ (mm_rf hq (q1 m (by omega) ⟨mm_no c_20, mm_no c_33⟩ hj))))
theorem c_St_own {ro : mm_Ro} {d nC nF nM : Nat} {qm : Nat → Nat} {x n : Int32} {h : mm_H} {Q : Value → mm_H → Prop} (I : mm_SH h) (V : mm_XN h nC nF nM) (E : mm_XM h nM qm) (q1 : ∀ m, m < nM → mm_hix h qm x n m → (∀ j, j < m → ¬ mm_hix h qm x n j) → Q (.ref (qm m)) h) (q2 : (∀ j, j < nM → ¬ mm_hix h qm x n j) → Q (.ref 0) h) : mm_ev ro (d + 1) n_St_own [.ref 2, .int x, .int n] h Q := by
  refine mm_ev_at 2 (Z := mm_m_St_own) rfl rfl (Nat.le_of_ble_eq_true rfl) rfl ?_
  exact l_St_own (ro := ro) (d := d) I V E q1 q2 nM 0 (Nat.zero_add _) (fun j hj => absurd hj (Nat.not_lt_zero j))
theorem c_Me_addInstruction {ro : mm_Ro} {d q c : Nat} {o a : Int32} {h : mm_H} {Q : Value → mm_H → Prop} (E : mm_ME h q) (hc : mm_i h 521 q = nI c) (hl : c < 20) (hQ : Q (.int (nI (c + 1))) (mm_si (mm_sa (mm_sa h (q + 3) c o) (q + 4) c a) 521 q (nI (c + 1)))) : mm_ev ro (d + 1) n_Me_addInstruction [.ref q, .int o, .int a] h Q := by
  refine mm_ev_in (Z := mm_m_Me_addInstruction) rfl rfl (Nat.le_of_ble_eq_true rfl) rfl ?_
  have hB : 0 ≤ (nI c).toInt ∧ (nI c).toInt < ((20 : Nat) : Int) := mm_nb hl (by omega)
  refine And.intro E.1.1 (mm_rf E.2.2.1.1 (And.intro E.1.1 (mm_rf hc (And.intro ⟨E.2.2.1.2.1, mm_inb 20 E.2.2.1.2.2 hB⟩ (And.intro E.1.1 (mm_rf E.2.2.2.1.1 (And.intro E.1.1 (mm_rf hc (And.intro ⟨E.2.2.2.1.2.1, mm_inb 20 E.2.2.2.1.2.2 hB⟩ (And.intro E.1.1 (mm_rf hc (And.intro E.1.1 (And.intro E.1.1 (mm_rf mm_i1 ?_))))))))))))))
  refine mm_qq hQ ?_ ?_
  · show Value.int (nI c + 1) = _
    rw [← nI_succ]
  · show mm_si (mm_sa (mm_sa h (q + 3) (nI c).toNatClampNeg o) (q + 4) (nI c).toNatClampNeg a) 521 q (nI c + 1) = _
    rw [mm_ncl (by omega), ← nI_succ]
theorem c_Me_addGuard {ro : mm_Ro} {d q c : Nat} {x y z : Int32} {h : mm_H} {Q : Value → mm_H → Prop} (E : mm_ME h q) (hc : mm_i h 525 q = nI c) (hl : c < 2) (hQ : Q (.int (nI (c + 1))) (mm_si (mm_sa (mm_sa (mm_sa h (q + 5) c x) (q + 6) c y) (q + 7) c z) 525 q (nI (c + 1)))) : mm_ev ro (d + 1) n_Me_addGuard [.ref q, .int x, .int y, .int z] h Q := by
  refine mm_ev_in (Z := mm_m_Me_addGuard) rfl rfl (Nat.le_of_ble_eq_true rfl) rfl ?_
  have hB : 0 ≤ (nI c).toInt ∧ (nI c).toInt < ((2 : Nat) : Int) := mm_nb hl (by omega)
  have E5 := E.2.2.2.2.1
  have E6 := E.2.2.2.2.2.1
  have E7 := E.2.2.2.2.2.2
  refine And.intro E.1.1 (mm_rf E5.1 (And.intro E.1.1 (mm_rf hc (And.intro ⟨E5.2.1, mm_inb 2 E5.2.2 hB⟩ (And.intro E.1.1 (mm_rf E6.1 (And.intro E.1.1 (mm_rf hc (And.intro ⟨E6.2.1, mm_inb 2 E6.2.2 hB⟩ (And.intro E.1.1 (mm_rf E7.1 (And.intro E.1.1 (mm_rf hc (And.intro ⟨E7.2.1, mm_inb 2 E7.2.2 hB⟩ (And.intro E.1.1 (mm_rf hc (And.intro E.1.1 (And.intro E.1.1 (mm_rf mm_i1 ?_)))))))))))))))))))
  refine mm_qq hQ ?_ ?_
  · show Value.int (nI c + 1) = _
    rw [← nI_succ]
  · show mm_si (mm_sa (mm_sa (mm_sa h (q + 5) (nI c).toNatClampNeg x) (q + 6) (nI c).toNatClampNeg y) (q + 7) (nI c).toNatClampNeg z) 525 q (nI c + 1) = _
    rw [mm_ncl (by omega), ← nI_succ]
theorem c_Me_clear {ro : mm_Ro} {d q : Nat} {h : mm_H} {Q : Value → mm_H → Prop} (E : mm_ME h q) (hQ : Q (.int (mm_i h 521 q)) (mm_si (mm_si h 521 q 0) 525 q 0)) : mm_ev ro (d + 1) n_Me_clear [.ref q] h Q := by
  refine mm_ev_in (Z := mm_m_Me_clear) rfl rfl (Nat.le_of_ble_eq_true rfl) rfl ?_
  exact And.intro E.1.1 (mm_rf rfl (And.intro E.1.1 (And.intro E.1.1 hQ)))
end
section
theorem c_St_makeClass {ro : mm_Ro} {d nC nF nM s : Nat} {h : mm_H} {Q : Value → mm_H → Prop} (I : mm_SH h) (V : mm_XN h nC nF nM) (hn : nC < 6) (hs : s < nC) (hQ : Q (.int (nI nC)) (mm_si (mm_sa (mm_sa h 3 nC (nI s)) 4 nC (mm_a h 4 s ||| (1 <<< (nI nC &&& 31)))) 64 2 (nI (nC + 1)))) : mm_ev ro (d + 1) n_St_makeClass [.ref 2, .int (nI s)] h Q := by
  refine mm_ev_in (Z := mm_m_St_makeClass) rfl rfl (Nat.le_of_ble_eq_true rfl) rfl ?_
  have hB : 0 ≤ (nI nC).toInt ∧ (nI nC).toInt < ((6 : Nat) : Int) := mm_nb hn (by omega)
  have hBs : 0 ≤ (nI s).toInt ∧ (nI s).toInt < ((6 : Nat) : Int) := mm_nb (by omega) (by omega)
  have hc : (nI nC).toNatClampNeg = nC := mm_ncl (by omega)
  have hcs : (nI s).toNatClampNeg = s := mm_ncl (by omega)
  have e1 : mm_a (mm_sa h 3 (nI nC).toNatClampNeg (nI s)) 4 (nI s).toNatClampNeg = mm_a h 4 s := by rw [hcs]; exact mm_a2 (Or.inl (by decide))
  refine And.intro (k_2 I) (mm_rf V.1 (And.intro (k_2 I) (mm_rf (r_65 I) (And.intro ⟨k_3 I, mm_inb 6 (n_3 I) hB⟩ (And.intro (k_2 I) (mm_rf (r_66 I) (And.intro (k_2 I) (mm_rf (r_66 I) (And.intro ⟨k_4 I, mm_inb 6 (n_4 I) hBs⟩ (mm_rf e1 (And.intro ⟨k_4 I, mm_inb 6 (n_4 I) hB⟩ (And.intro (k_2 I) (mm_rf V.1 (And.intro (k_2 I) ?_))))))))))))))
  refine mm_qq hQ rfl ?_
  show mm_si (mm_sa (mm_sa h 3 (nI nC).toNatClampNeg (nI s)) 4 (nI nC).toNatClampNeg (mm_a h 4 s ||| (1 <<< (nI nC &&& 31)))) 64 2 (nI nC + 1) = _
  rw [hc, ← nI_succ]
theorem c_Ga_cls {ro : mm_Ro} {d nC nF nM : Nat} {x : Int32} {h : mm_H} {Q : Value → mm_H → Prop} (I : mm_SH h) (V : mm_XN h nC nF nM)
    (q1 : ¬ mm_i h 68 2 = 0 → Q (.int (-3)) h) (q2 : mm_i h 68 2 = 0 → ¬ (0 ≤ x.toInt ∧ x.toInt < (nC : Int)) → Q (.int (-1)) h) (q3 : mm_i h 68 2 = 0 → (0 ≤ x.toInt ∧ x.toInt < (nC : Int)) → nC = 6 → Q (.int (-2)) h)
    (q4 : mm_i h 68 2 = 0 → ∀ s, s < nC → x = nI s → nC < 6 → Q (.int (nI nC)) (mm_si (mm_sa (mm_sa h 3 nC (nI s)) 4 nC (mm_a h 4 s ||| (1 <<< (nI nC &&& 31)))) 64 2 (nI (nC + 1)))) : mm_ev ro (d + 3) n_Ga_cls [.ref 1, .int x] h Q := by
  refine mm_ev_in (Z := mm_m_Ga_cls) rfl rfl (Nat.le_of_ble_eq_true rfl) rfl ?_
  refine And.intro (k_1 I) (mm_rf (r_0 I) (And.intro (k_2 I) (mm_rf rfl (And.intro (fun c_7 => mm_go_from (mm_hM n_Ga_cls rfl) ?_) (fun c_7 => q1 c_7)))))
  refine And.intro (k_1 I) (mm_rf (r_0 I) (And.intro ⟨rfl, k_2 I⟩ (c_St_isClass I V (And.intro (fun c_21 => mm_go_from (mm_hM n_Ga_cls rfl) ?_) (fun c_21 => q2 c_7 (mm_nb0 c_21))))))
  have h1 := mm_nn c_21
  refine And.intro (k_1 I) (mm_rf (r_0 I) (And.intro (k_2 I) (mm_rf V.1 (And.intro (fun c_35 => mm_go_from (mm_hM n_Ga_cls rfl) ?_) (fun c_35 => mm_go_from (mm_hM n_Ga_cls rfl) (q3 c_7 h1 (mm_nee (by have := V.2.2.2.2.1; omega) (by omega) (mm_no c_35))))))))
  obtain ⟨s, hs, rfl⟩ := mm_of h1
  have hn : nC < 6 := mm_nel V.2.2.2.2.1 (by omega) c_35
  exact And.intro (k_1 I) (mm_rf (r_0 I) (And.intro ⟨rfl, k_2 I⟩ (c_St_makeClass I V hn hs (q4 c_7 s hs rfl hn))))
/-- methods[m] of the stock -/
theorem mm_mth {h : mm_H} {nM : Nat} {qm : Nat → Nat} (I : mm_SH h) (E : mm_XM h nM qm) (hM : nM ≤ 10) {k : Nat} (hk : k < nM) : ((22 ≤ mm_k h 8 ∧ mm_k h 8 < 26) ∧ mm_in (nI k) (mm_n h 8)) ∧ mm_q h 8 (nI k).toNatClampNeg = qm k ∧ mm_ME h (qm k) := by
  refine ⟨⟨by rw [k_8 I]; decide, mm_inb 10 (n_8 I) (mm_nb (by omega) (by omega))⟩, ?_, (E k hk).2⟩
  rw [mm_ncl (by omega)]
  exact (E k hk).1
theorem c_Ga_wipe {ro : mm_Ro} {d nC nF nM : Nat} {qm : Nat → Nat} {m : Int32} {h : mm_H} {Q : Value → mm_H → Prop} (I : mm_SH h) (V : mm_XN h nC nF nM) (E : mm_XM h nM qm)
    (q1 : ¬ mm_i h 68 2 = 0 → Q (.int (-3)) h) (q2 : mm_i h 68 2 = 0 → ¬ (0 ≤ m.toInt ∧ m.toInt < (nM : Int)) → Q (.int (-1)) h) (q3 : mm_i h 68 2 = 0 → ∀ k, k < nM → m = nI k → Q (.int (mm_i h 521 (qm k))) (mm_si (mm_si h 521 (qm k) 0) 525 (qm k) 0)) : mm_ev ro (d + 3) n_Ga_wipe [.ref 1, .int m] h Q := by
  refine mm_ev_in (Z := mm_m_Ga_wipe) rfl rfl (Nat.le_of_ble_eq_true rfl) rfl ?_
  refine And.intro (k_1 I) (mm_rf (r_0 I) (And.intro (k_2 I) (mm_rf rfl (And.intro (fun c_7 => mm_go_from (mm_hM n_Ga_wipe rfl) ?_) (fun c_7 => q1 c_7)))))
  refine And.intro (k_1 I) (mm_rf (r_0 I) (And.intro ⟨rfl, k_2 I⟩ (c_St_isMethod I V (And.intro (fun c_21 => mm_go_from (mm_hM n_Ga_wipe rfl) (q2 c_7 (mm_b0.mp c_21))) (fun c_21 => ?_)))))
  obtain ⟨k, hk, rfl⟩ := mm_of (mm_nn c_21)
  obtain ⟨a1, a2, a3⟩ := mm_mth I E V.2.2.2.2.2.2 hk
  exact And.intro (k_1 I) (mm_rf (r_0 I) (And.intro (k_2 I) (mm_rf (r_73 I) (And.intro a1 (mm_rf a2 (And.intro ⟨rfl, a3.1.1⟩ (c_Me_clear a3 (mm_go_from (mm_hM n_Ga_wipe rfl) (q3 c_7 k hk rfl)))))))))
theorem c_Ga_builtIn {ro : mm_Ro} {d nC nF nM : Nat} {qm : Nat → Nat} {m k : Int32} {h : mm_H} {Q : Value → mm_H → Prop} (I : mm_SH h) (V : mm_XN h nC nF nM) (E : mm_XM h nM qm)
    (q1 : (¬ mm_i h 68 2 = 0 ∨ ¬ (0 ≤ m.toInt ∧ m.toInt < (nM : Int)) ∨ ¬ (-1 ≤ k.toInt ∧ k.toInt ≤ 2)) → Q (.int 0) h) (q2 : mm_i h 68 2 = 0 → ∀ j, j < nM → m = nI j → (-1 ≤ k.toInt ∧ k.toInt ≤ 2) → Q (.int 1) (mm_si h 518 (qm j) k)) : mm_ev ro (d + 3) n_Ga_builtIn [.ref 1, .int m, .int k] h Q := by
  refine mm_ev_in (Z := mm_m_Ga_builtIn) rfl rfl (Nat.le_of_ble_eq_true rfl) rfl ?_
  refine And.intro (k_1 I) (mm_rf (r_0 I) (And.intro (k_2 I) (mm_rf rfl (And.intro (fun c_7 => mm_go_from (mm_hM n_Ga_builtIn rfl) ⟨Or.inl rfl, q1 (Or.inl c_7)⟩) (fun c_7 => ?_)))))
  refine And.intro (k_1 I) (mm_rf (r_0 I) (And.intro ⟨rfl, k_2 I⟩ (c_St_isMethod I V (And.intro (fun c_18 => mm_go_from (mm_hM n_Ga_builtIn rfl) ⟨Or.inl rfl, q1 (Or.inr (Or.inl (mm_b0.mp c_18)))⟩) (fun c_18 => ?_)))))
  obtain ⟨j, hj, rfl⟩ := mm_of (mm_nn c_18)
  obtain ⟨a1, a2, a3⟩ := mm_mth I E V.2.2.2.2.2.2 hj
  refine And.intro (fun c_23 => mm_go_from (mm_hM n_Ga_builtIn rfl) ⟨Or.inl rfl, q1 (Or.inr (Or.inr (fun q => ?_)))⟩) (fun c_23 => ?_)
  · have c : k.toInt < -1 := c_23
    omega
  · have c : ¬ k.toInt < -1 := c_23
    refine And.intro (fun c_28 => mm_go_from (mm_hM n_Ga_builtIn rfl) ?_) (fun c_28 => ⟨Or.inl rfl, q1 (Or.inr (Or.inr (fun q => ?_)))⟩)
    · have c2 : k.toInt ≤ 2 := c_28
      exact And.intro (k_1 I) (mm_rf (r_0 I) (And.intro (k_2 I) (mm_rf (r_73 I) (And.intro a1 (mm_rf a2 (And.intro a3.1.1 ⟨Or.inr rfl, q2 (mm_no c_7) j hj rfl ⟨by omega, c2⟩⟩))))))
    · exact c_28 q.2
/-- what a place for values keeps of 'may' -/
noncomputable def mm_my (s b : Int32) : Int32 := mm_b (¬ b = 0 ∧ 0 ≤ s.toInt)
theorem c_Pl_become {ro : mm_Ro} {d p : Nat} {s b w : Int32} {h : mm_H} {Q : Value → mm_H → Prop} (hk : mm_k h p = 8) (hQ : Q .null (mm_si (mm_si (mm_si h 448 p s) 449 p (mm_my s b)) 450 p w)) : mm_ev ro (d + 1) n_Pl_become [.ref p, .int s, .int b, .int w] h Q := by
  refine mm_ev_in (Z := mm_m_Pl_become) rfl rfl (Nat.le_of_ble_eq_true rfl) rfl ?_
  have hq0 : mm_my s b = 0 → Q .null (mm_si (mm_si (mm_si h 448 p s) 449 p 0) 450 p w) := fun e => by rw [e] at hQ; exact hQ
  have hq1 : mm_my s b = 1 → Q .null (mm_si (mm_si (mm_si h 448 p s) 449 p 1) 450 p w) := fun e => by rw [e] at hQ; exact hQ
  refine And.intro hk (And.intro (fun c_7 => mm_go_from (mm_hM n_Pl_become rfl) ?_) (fun c_7 => ?_))
  · exact And.intro hk (And.intro (Or.inl rfl) (And.intro hk (hq0 (mm_b_f (fun q => q.1 c_7)))))
  · refine And.intro (fun c_11 => mm_go_from (mm_hM n_Pl_become rfl) ?_) (fun c_11 => mm_go_from (mm_hM n_Pl_become rfl) ?_)
    · exact And.intro hk (And.intro (Or.inl rfl) (And.intro hk (hq0 (mm_b_f (fun q => by have c : s.toInt < 0 := c_11; omega)))))
    · exact And.intro hk (And.intro (Or.inr rfl) (And.intro hk (hq1 (mm_b_t ⟨c_7, by have c : ¬ s.toInt < 0 := c_11; omega⟩))))
theorem c_Ga_place {ro : mm_Ro} {d : Nat} {h : mm_H} {Q : Value → mm_H → Prop} (I : mm_SH h) (hQ : Q (.int (mm_i h 3 1)) h) : mm_ev ro (d + 1) n_Ga_place [.ref 1] h Q := by
  refine mm_ev_in (Z := mm_m_Ga_place) rfl rfl (Nat.le_of_ble_eq_true rfl) rfl ?_
  exact And.intro (k_1 I) (mm_rf rfl hQ)
theorem c_Ga_value {ro : mm_Ro} {d : Nat} {h : mm_H} {Q : Value → mm_H → Prop} (I : mm_SH h) (hQ : Q (.int (mm_i h 324 56)) h) : mm_ev ro (d + 1) n_Ga_value [.ref 1] h Q := by
  refine mm_ev_in (Z := mm_m_Ga_value) rfl rfl (Nat.le_of_ble_eq_true rfl) rfl ?_
  exact And.intro (k_1 I) (mm_rf (r_2 I) (And.intro (k_56 I) (mm_rf rfl hQ)))
theorem c_Ga_told {ro : mm_Ro} {d : Nat} {w : Int32} {h : mm_H} {Q : Value → mm_H → Prop} (I : mm_SH h) (q0 : w.toInt = 0 → Q (.int (mm_i h 325 56)) h) (q1 : w.toInt = 1 → Q (.int (mm_i h 326 56)) h) (q2 : w.toInt = 2 → Q (.int (mm_i h 327 56)) h) (q3 : w.toInt = 3 → Q (.int (mm_i h 328 56)) h) (q4 : w.toInt = 4 → Q (.int (mm_i h 329 56)) h) (q5 : (w.toInt < 0 ∨ 4 < w.toInt) → Q (.int (-1)) h) : mm_ev ro (d + 1) n_Ga_told [.ref 1, .int w] h Q := by
  refine mm_ev_in (Z := mm_m_Ga_told) rfl rfl (Nat.le_of_ble_eq_true rfl) rfl ?_
  refine And.intro (fun c => mm_go_from (mm_hM n_Ga_told rfl) (q5 c)) (And.intro (Nat.le_of_ble_eq_true rfl) ?_)
  have g : ∀ {P : Int32 → Prop} {f : Nat}, P (mm_i h f 56) → ∀ x, x = mm_i h f 56 → P x := fun hp x e => by rw [e]; exact hp
  exact ⟨fun c => mm_go_from (mm_hM n_Ga_told rfl) (And.intro (k_1 I) (mm_rf (r_2 I) (And.intro (k_56 I) (mm_rf rfl (q0 c))))), fun c => mm_go_from (mm_hM n_Ga_told rfl) (And.intro (k_1 I) (mm_rf (r_2 I) (And.intro (k_56 I) (mm_rf rfl (q1 c))))), fun c => mm_go_from (mm_hM n_Ga_told rfl) (And.intro (k_1 I) (mm_rf (r_2 I) (And.intro (k_56 I) (mm_rf rfl (q2 c))))), fun c => mm_go_from (mm_hM n_Ga_told rfl) (And.intro (k_1 I) (mm_rf (r_2 I) (And.intro (k_56 I) (mm_rf rfl (q3 c))))), fun c => mm_go_from (mm_hM n_Ga_told rfl) (And.intro (k_1 I) (mm_rf (r_2 I) (And.intro (k_56 I) (mm_rf rfl (q4 c))))), trivial⟩
end
section
theorem c_Ga_isLoaded {ro : mm_Ro} {d nC nF nM : Nat} {c : Int32} {h : mm_H} {Q : Value → mm_H → Prop} (I : mm_SH h) (V : mm_XN h nC nF nM) (hQ : Q (.int (mm_b (∃ m, m < nC ∧ c = nI m ∧ mm_a h 5 m ≠ 0))) h) : mm_ev ro (d + 3) n_Ga_isLoaded [.ref 1, .int c] h Q := by
  refine mm_ev_in (Z := mm_m_Ga_isLoaded) rfl rfl (Nat.le_of_ble_eq_true rfl) rfl ?_
  have hC := V.2.2.2.2.1
  refine And.intro (k_1 I) (mm_rf (r_0 I) (And.intro ⟨rfl, k_2 I⟩ (c_St_isClass I V (And.intro (fun c_5 => mm_go_from (mm_hM n_Ga_isLoaded rfl) ?_) (fun c_5 => ?_)))))
  · refine ⟨Or.inl rfl, mm_qe hQ (mm_b_f ?_)⟩
    rintro ⟨m, hm, rfl, -⟩
    exact mm_b0.mp c_5 (mm_nb hm (by omega))
  · obtain ⟨m, hm, rfl⟩ := mm_of (mm_nn c_5)
    have hc : (nI m).toNatClampNeg = m := mm_ncl (by omega)
    refine And.intro (k_1 I) (mm_rf (r_0 I) (And.intro (k_2 I) (mm_rf (r_67 I) (And.intro ⟨k_5 I, mm_inb 6 (n_5 I) (mm_nb (by omega) (by omega))⟩ (mm_rf (congrArg _ hc) (And.intro (fun c_14 => mm_go_from (mm_hM n_Ga_isLoaded rfl) ?_) (fun c_14 => mm_go_from (mm_hM n_Ga_isLoaded rfl) ?_)))))))
    · refine ⟨Or.inl rfl, mm_qe hQ (mm_b_f ?_)⟩
      rintro ⟨m', hm', e, hl⟩
      have e2 := (nI_eq (by omega) (by omega)).mp e
      subst e2
      exact hl c_14
    · exact ⟨Or.inr rfl, mm_qe hQ (mm_b_t ⟨m, hm, rfl, c_14⟩)⟩
theorem c_Ga_input {ro : mm_Ro} {d n : Nat} {v : Int32} {h : mm_H} {Q : Value → mm_H → Prop} (I : mm_SH h) (hn : mm_i h 322 56 = nI n) (h8 : n ≤ 8) (q1 : n = 8 → Q (.int (-2)) h) (q2 : n < 8 → Q (.int (nI (n + 1))) (mm_si (mm_sa h 57 n v) 322 56 (nI (n + 1)))) : mm_ev ro (d + 2) n_Ga_input [.ref 1, .int v] h Q := by
  refine mm_ev_in (Z := mm_m_Ga_input) rfl rfl (Nat.le_of_ble_eq_true rfl) rfl ?_
  refine And.intro (k_1 I) (mm_rf (r_2 I) (And.intro (k_56 I) (mm_rf hn (And.intro (fun c_9 => mm_go_from (mm_hM n_Ga_input rfl) ?_) (fun c_9 => mm_go_from (mm_hM n_Ga_input rfl) (q1 (mm_nee (by omega) (by omega) (mm_no c_9))))))))
  have hlt : n < 8 := mm_nel h8 (by omega) c_9
  refine And.intro (k_1 I) (mm_rf (r_2 I) (And.intro ⟨rfl, k_56 I⟩ ?_))
  refine mm_ev_in (Z := mm_m_Ma_addInput) rfl rfl (Nat.le_of_ble_eq_true rfl) rfl ?_
  refine And.intro (k_56 I) (mm_rf (r_321 I) (And.intro (k_56 I) (mm_rf hn (And.intro ⟨k_57 I, mm_inb 8 (n_57 I) (mm_nb hlt (by omega))⟩ (And.intro (k_56 I) (mm_rf hn (And.intro (k_56 I) (And.intro (k_56 I) (mm_rf mm_i1 ?_)))))))))
  show Q (.int (nI n + 1)) (mm_si (mm_sa h 57 (nI n).toNatClampNeg v) 322 56 (nI n + 1))
  rw [mm_ncl (by omega), ← nI_succ]
  exact q2 hlt
theorem c_Ga_output {ro : mm_Ro} {d n : Nat} {k : Int32} {h : mm_H} {Q : Value → mm_H → Prop} (I : mm_SH h) (hn : mm_i h 327 56 = nI n) (hn2 : n < 1000) (q1 : ∀ j, j < 16 → j < n → k = nI j → Q (.int (mm_a h 58 j)) h) (q2 : ¬ (0 ≤ k.toInt ∧ k.toInt ≤ 15 ∧ k.toInt < (n : Int)) → Q (.int 0) h) : mm_ev ro (d + 2) n_Ga_output [.ref 1, .int k] h Q := by
  refine mm_ev_in (Z := mm_m_Ga_output) rfl rfl (Nat.le_of_ble_eq_true rfl) rfl ?_
  have em : (if Int32.ofInt 16 < nI n then Int32.ofInt 16 else nI n).toInt = if 16 < n then 16 else (n : Int) := by
    have h16 : (Int32.ofInt 16).toInt = 16 := by decide
    by_cases q : 16 < n
    · rw [if_pos (Int32.lt_iff_toInt_lt.mpr (by rw [h16, mm_nt (by omega)]; omega)), if_pos q, h16]
    · rw [if_neg (fun z => by have := Int32.lt_iff_toInt_lt.mp z; rw [h16, mm_nt (by omega)] at this; omega), if_neg q, mm_nt (by omega)]
  refine And.intro (k_1 I) (mm_rf (r_2 I) (And.intro (k_56 I) (mm_rf hn (And.intro (Nat.le_of_ble_eq_true rfl) (And.intro ⟨rfl, trivial⟩ (c_Ga_within I (And.intro (fun c_16 => mm_go_from (mm_hM n_Ga_output rfl) (q2 (fun q => mm_b0.mp c_16 ⟨q.1, ?_⟩))) (fun c_16 => ?_))))))))
  · show k.toInt < (if Int32.ofInt 16 < nI n then Int32.ofInt 16 else nI n).toInt
    rw [em]
    have := q.2
    split <;> omega
  · have b : 0 ≤ k.toInt ∧ k.toInt < (if Int32.ofInt 16 < nI n then Int32.ofInt 16 else nI n).toInt := mm_nn c_16
    rw [em] at b
    have b2 : k.toInt < 16 ∧ k.toInt < (n : Int) := by
      have := b.2
      split at this <;> omega
    obtain ⟨j, hj, rfl⟩ := mm_of (x := k) (N := 16) ⟨b.1, by omega⟩
    have hc : (nI j).toNatClampNeg = j := mm_ncl (by omega)
    have hjn : j < n := by have := b2.2; rw [mm_nt (by omega)] at this; omega
    exact And.intro (k_1 I) (mm_rf (r_2 I) (And.intro (k_56 I) (mm_rf (r_323 I) (And.intro ⟨k_58 I, mm_inb 16 (n_58 I) (mm_nb hj (by omega))⟩ (mm_rf (congrArg _ hc) (mm_go_from (mm_hM n_Ga_output rfl) (q1 j hj hjn rfl)))))))
theorem c_St_isArgument {ro : mm_Ro} {d nC nF nM : Nat} {o a : Int32} {h : mm_H} {Q : Value → mm_H → Prop} (I : mm_SH h) (V : mm_XN h nC nF nM) (ho : 0 ≤ o.toInt ∧ o.toInt ≤ 17) (hQ : Q (.int (mm_b (mm_arg nC nF nM o.toInt a.toInt))) h) : mm_ev ro (d + 3) n_St_isArgument [.ref 2, .int o, .int a] h Q := by
  refine mm_ev_in (Z := mm_m_St_isArgument) rfl rfl (Nat.le_of_ble_eq_true rfl) rfl ?_
  have hC := V.2.2.2.2.1
  have hF := V.2.2.2.2.2.1
  have hM := V.2.2.2.2.2.2
  have ok : ¬ (o.toInt = 2 ∨ o.toInt = 3 ∨ o.toInt = 7 ∨ o.toInt = 12 ∨ o.toInt = 9 ∨ o.toInt = 10 ∨ o.toInt = 11 ∨ (13 ≤ o.toInt ∧ o.toInt ≤ 15)) → mm_go ro (d + 2) mm_m_St_isArgument 107 [.ref 2, .int o, .int a] [] h Q := fun hq => mm_go_from (mm_hM n_St_isArgument rfl) ⟨Or.inr rfl, mm_qe hQ (mm_b_t (by unfold mm_arg; omega))⟩
  have l6 : (o.toInt = 2 ∨ o.toInt = 3) → mm_go ro (d + 2) mm_m_St_isArgument 72 [.ref 2, .int o, .int a] [] h Q := fun hq => mm_go_from (mm_hM n_St_isArgument rfl) (And.intro ⟨rfl, trivial⟩ (c_Ga_within I ⟨mm_b01 _, mm_qe hQ (mm_b_iff (by rw [show ((Int8.ofInt 6).toInt32).toInt = 6 by decide]; unfold mm_arg; omega))⟩))
  have l7 : (o.toInt = 7 ∨ o.toInt = 12) → mm_go ro (d + 2) mm_m_St_isArgument 79 [.ref 2, .int o, .int a] [] h Q := fun hq => mm_go_from (mm_hM n_St_isArgument rfl) (And.intro ⟨rfl, k_2 I⟩ (c_St_isClass I V ⟨mm_b01 _, mm_qe hQ (mm_b_iff (by unfold mm_arg; omega))⟩))
  have l9 : (o.toInt = 9 ∨ o.toInt = 10) → mm_go ro (d + 2) mm_m_St_isArgument 85 [.ref 2, .int o, .int a] [] h Q := fun hq => mm_go_from (mm_hM n_St_isArgument rfl) (And.intro (k_2 I) (mm_rf V.2.1 (And.intro ⟨rfl, trivial⟩ (c_Ga_within I ⟨mm_b01 _, mm_qe hQ (mm_b_iff (by rw [mm_nt (by omega)]; unfold mm_arg; omega))⟩))))
  have l11 : o.toInt = 11 → mm_go ro (d + 2) mm_m_St_isArgument 94 [.ref 2, .int o, .int a] [] h Q := fun hq => mm_go_from (mm_hM n_St_isArgument rfl) (And.intro ⟨rfl, k_2 I⟩ (c_St_isMethod I V ⟨mm_b01 _, mm_qe hQ (mm_b_iff (by unfold mm_arg; omega))⟩))
  have l20 : (13 ≤ o.toInt ∧ o.toInt ≤ 15) → mm_go ro (d + 2) mm_m_St_isArgument 100 [.ref 2, .int o, .int a] [] h Q := fun hq => mm_go_from (mm_hM n_St_isArgument rfl) (And.intro ⟨rfl, trivial⟩ (c_Ga_within I ⟨mm_b01 _, mm_qe hQ (mm_b_iff (by rw [show ((Int8.ofInt 20).toInt32).toInt = 20 by decide]; unfold mm_arg; omega))⟩))
  refine And.intro (fun c => ok (by omega)) (And.intro (Nat.le_of_ble_eq_true rfl) ?_)
  exact ⟨fun c => l6 (Or.inl c), fun c => l6 (Or.inr c), fun c => ok (by have c : o.toInt = 4 := c; omega), fun c => ok (by have c : o.toInt = 5 := c; omega), fun c => ok (by have c : o.toInt = 6 := c; omega), fun c => l7 (Or.inl c), fun c => ok (by have c : o.toInt = 8 := c; omega), fun c => l9 (Or.inl c), fun c => l9 (Or.inr c), fun c => l11 c, fun c => l7 (Or.inr c), fun c => l20 (by have c : o.toInt = 13 := c; omega), fun c => l20 (by have c : o.toInt = 14 := c; omega), fun c => l20 (by have c : o.toInt = 15 := c; omega), trivial⟩
/-- how many instructions and guards methods of the class have -/
def mm_XA (h : mm_H) (nM : Nat) (qm nl ng : Nat → Nat) : Prop := ∀ m, m < nM → (mm_i h 521 (qm m) = nI (nl m) ∧ nl m ≤ 20) ∧ (mm_i h 525 (qm m) = nI (ng m) ∧ ng m ≤ 2)
theorem c_Ga_add {ro : mm_Ro} {d nC nF nM : Nat} {qm nl ng : Nat → Nat} {m o a : Int32} {h : mm_H} {Q : Value → mm_H → Prop} (I : mm_SH h) (V : mm_XN h nC nF nM) (E : mm_XM h nM qm) (A : mm_XA h nM qm nl ng)
    (q1 : ¬ mm_i h 68 2 = 0 → Q (.int (-3)) h) (q2 : mm_i h 68 2 = 0 → ¬ ((0 ≤ m.toInt ∧ m.toInt < (nM : Int)) ∧ (0 ≤ o.toInt ∧ o.toInt ≤ 17) ∧ mm_arg nC nF nM o.toInt a.toInt) → Q (.int (-1)) h)
    (q3 : mm_i h 68 2 = 0 → ∀ k, k < nM → m = nI k → (0 ≤ o.toInt ∧ o.toInt ≤ 17) → mm_arg nC nF nM o.toInt a.toInt → nl k = 20 → Q (.int (-2)) h)
    (q4 : mm_i h 68 2 = 0 → ∀ k, k < nM → m = nI k → (0 ≤ o.toInt ∧ o.toInt ≤ 17) → mm_arg nC nF nM o.toInt a.toInt → nl k < 20 → Q (.int (nI (nl k + 1))) (mm_si (mm_sa (mm_sa h (qm k + 3) (nl k) o) (qm k + 4) (nl k) a) 521 (qm k) (nI (nl k + 1)))) : mm_ev ro (d + 4) n_Ga_add [.ref 1, .int m, .int o, .int a] h Q := by
  refine mm_ev_in (Z := mm_m_Ga_add) rfl rfl (Nat.le_of_ble_eq_true rfl) rfl ?_
  have e18 : ∀ z : Int32, (0 ≤ z.toInt ∧ z.toInt < ((Int8.ofInt 18).toInt32).toInt) ↔ (0 ≤ z.toInt ∧ z.toInt ≤ 17) := by
    intro z
    rw [show ((Int8.ofInt 18).toInt32).toInt = 18 by decide]
    omega
  refine And.intro (k_1 I) (mm_rf (r_0 I) (And.intro (k_2 I) (mm_rf rfl (And.intro (fun c_7 => mm_go_from (mm_hM n_Ga_add rfl) ?_) (fun c_7 => q1 c_7)))))
  refine And.intro (k_1 I) (mm_rf (r_0 I) (And.intro ⟨rfl, k_2 I⟩ (c_St_isMethod I V (And.intro (fun c_21 => mm_go_from (mm_hM n_Ga_add rfl) (q2 c_7 (fun q => mm_b0.mp c_21 q.1))) (fun c_21 => ?_)))))
  refine And.intro ⟨rfl, trivial⟩ (c_Ga_within I (And.intro (fun c_30 => mm_go_from (mm_hM n_Ga_add rfl) (q2 c_7 (fun q => mm_b0.mp c_30 ((e18 o).mpr q.2.1)))) (fun c_30 => ?_)))
  have ho := (e18 o).mp (mm_nn c_30)
  refine And.intro (k_1 I) (mm_rf (r_0 I) (And.intro ⟨rfl, k_2 I⟩ (c_St_isArgument I V ho (And.intro (fun c_42 => mm_go_from (mm_hM n_Ga_add rfl) ?_) (fun c_42 => q2 c_7 (fun q => mm_nb0 c_42 q.2.2))))))
  obtain ⟨k, hk, rfl⟩ := mm_of (mm_nn c_21)
  have ha := mm_nn c_42
  obtain ⟨a1, a2, a3⟩ := mm_mth I E V.2.2.2.2.2.2 hk
  have hA := (A k hk).1
  refine And.intro (k_1 I) (mm_rf (r_0 I) (And.intro (k_2 I) (mm_rf (r_73 I) (And.intro a1 (mm_rf a2 (And.intro a3.1.1 (mm_rf hA.1 (And.intro (fun c_65 => mm_go_from (mm_hM n_Ga_add rfl) ?_) (fun c_65 => mm_go_from (mm_hM n_Ga_add rfl) (q3 c_7 k hk rfl ho ha (mm_nee (by omega) (by omega) (mm_no c_65))))))))))))
  have hl : nl k < 20 := mm_nel hA.2 (by omega) c_65
  exact And.intro ⟨rfl, a3.1.1⟩ (c_Me_addInstruction a3 hA.1 hl (q4 c_7 k hk rfl ho ha hl))
end
section
/-! WHAT IS KNOWN OF VALUES: the order BELOW, the lowest that two are both BELOW, values and their order -/
theorem mm_anc_add {up : Nat → Int} {x : Int} (k : Nat) : ∀ j, mm_anc up (k + j) x = mm_anc up j (mm_anc up k x) := by
  intro j
  induction j with
  | zero => rfl
  | succ j ih =>
    show (if mm_anc up (k + j) x < 0 then (-1 : Int) else up (mm_anc up (k + j) x).toNat) = (if mm_anc up j (mm_anc up k x) < 0 then (-1 : Int) else up (mm_anc up j (mm_anc up k x)).toNat)
    rw [ih]
theorem mm_anc_le {up : Nat → Int} (U : mm_upo up) {x : Int} (hx : x < 6) : ∀ k, 0 ≤ mm_anc up k x → mm_anc up k x ≤ x - k := by
  intro k
  induction k with
  | zero => intro _; show x ≤ x - (0 : Nat); omega
  | succ k ih =>
    intro h
    have e : mm_anc up (k + 1) x = if mm_anc up k x < 0 then (-1 : Int) else up (mm_anc up k x).toNat := rfl
    rw [e] at h ⊢
    by_cases q : mm_anc up k x < 0
    · rw [if_pos q] at h; omega
    · rw [if_neg q] at h ⊢
      have h1 := ih (by omega)
      have h2 := U (mm_anc up k x).toNat (by omega)
      omega
theorem mm_bel_refl {up : Nat → Int} {x : Int} (hx : 0 ≤ x) : mm_bel up x x := ⟨hx, 0, rfl⟩
theorem mm_bel_trans {up : Nat → Int} {x y z : Int} (h1 : mm_bel up x y) (h2 : mm_bel up y z) : mm_bel up x z := by
  obtain ⟨_, k, hk⟩ := h1
  obtain ⟨hz, j, hj⟩ := h2
  exact ⟨hz, k + j, by rw [mm_anc_add, hk, hj]⟩
theorem mm_bel_le {up : Nat → Int} (U : mm_upo up) {x y : Int} (hx : x < 6) (h : mm_bel up x y) : y ≤ x := by
  obtain ⟨h0, k, hk⟩ := h
  have := mm_anc_le U hx k (by omega)
  omega
theorem mm_bel_anti {up : Nat → Int} (U : mm_upo up) {x y : Int} (hx : x < 6) (hy : y < 6) (h1 : mm_bel up x y) (h2 : mm_bel up y x) : x = y := by
  have := mm_bel_le U hx h1
  have := mm_bel_le U hy h2
  omega
theorem mm_bel_chain {up : Nat → Int} (U : mm_upo up) {x y z : Int} (hx : x < 6) (h1 : mm_bel up x y) (h2 : mm_bel up x z) (hz : z ≤ y) : mm_bel up y z := by
  obtain ⟨hy0, k, hk⟩ := h1
  obtain ⟨hz0, j, hj⟩ := h2
  rcases Nat.le_total k j with q | q
  · obtain ⟨i, rfl⟩ : ∃ i, j = k + i := ⟨j - k, by omega⟩
    exact ⟨hz0, i, by rw [← hk, ← mm_anc_add, hj]⟩
  · obtain ⟨i, rfl⟩ : ∃ i, k = j + i := ⟨k - j, by omega⟩
    have hb : mm_bel up z y := ⟨hy0, i, by rw [← hj, ← mm_anc_add, hk]⟩
    have hzx : z ≤ x := mm_bel_le U hx ⟨hz0, j, hj⟩
    have := mm_bel_le U (by omega) hb
    have e : y = z := by omega
    rw [e]
    exact mm_bel_refl hz0
/-- all but the first have one above -/
def mm_upz (up : Nat → Int) : Prop := ∀ z, 0 < z → z < 6 → 0 ≤ up z
theorem mm_bel_zero {up : Nat → Int} (U : mm_upo up) (Z : mm_upz up) : ∀ (n : Nat) (x : Int), 0 ≤ x → x < 6 → x ≤ n → mm_bel up x 0 := by
  intro n
  induction n with
  | zero => intro x h0 h6 hn; rw [show x = 0 by omega]; exact mm_bel_refl (by omega)
  | succ n ih =>
    intro x h0 h6 hn
    by_cases q : x = 0
    · rw [q]; exact mm_bel_refl (by omega)
    · have h1 := U x.toNat (by omega)
      have h2 := Z x.toNat (by omega) (by omega)
      refine mm_bel_trans ⟨h2, 1, ?_⟩ (ih (up x.toNat) h2 (by omega) (by omega))
      show (if x < 0 then (-1 : Int) else up x.toNat) = up x.toNat
      rw [if_neg (by omega)]
/-- the lowest that both are BELOW: the highest number -/
def mm_lca (up : Nat → Int) (x y e : Int) : Prop := mm_bel up x e ∧ mm_bel up y e ∧ ∀ z, mm_bel up x z → mm_bel up y z → z ≤ e
theorem mm_lca_bel {up : Nat → Int} (U : mm_upo up) {x y e z : Int} (hx : x < 6) (h : mm_lca up x y e) (h1 : mm_bel up x z) (h2 : mm_bel up y z) : mm_bel up e z := mm_bel_chain U hx h.1 h1 (h.2.2 z h1 h2)
theorem mm_lca_uni {up : Nat → Int} {x y e e' : Int} (h : mm_lca up x y e) (h' : mm_lca up x y e') : e = e' := by
  have := h.2.2 e' h'.1 h'.2.1
  have := h'.2.2 e h.1 h.2.1
  omega
/-- a value: kind, its C, may be null, marks, origin -/
abbrev mm_V : Type := Int32 × Int32 × Int32 × Int32 × Int32
def mm_vr (x : mm_V) : Prop := (0 ≤ x.1.toInt ∧ x.1.toInt ≤ 4) ∧ (x.1.toInt < 3 → x.2.1 = -1) ∧ (3 ≤ x.1.toInt → 0 ≤ x.2.1.toInt ∧ x.2.1.toInt ≤ 5) ∧ (x.2.2.1 = 0 ∨ x.2.2.1 = 1) ∧ (0 ≤ x.2.2.2.1.toInt ∧ x.2.2.2.1.toInt ≤ 15) ∧ (-1 ≤ x.2.2.2.2.toInt ∧ x.2.2.2.2.toInt ≤ 5)
/-- kinds -/
def mm_kle (up : Nat → Int) (k c k' c' : Int32) : Prop := k' = 0 ∨ (k = k' ∧ c = c') ∨ (k = 2 ∧ k' = 3) ∨ (k = 3 ∧ k' = 3 ∧ mm_bel up c.toInt c'.toInt)
def mm_vle (up : Nat → Int) (x y : mm_V) : Prop := mm_kle up x.1 x.2.1 y.1 y.2.1 ∧ (x.2.2.1 = y.2.2.1 ∨ (x.2.2.1 = 0 ∧ y.2.2.1 = 1)) ∧ (x.2.2.2.1 ||| y.2.2.2.1 = y.2.2.2.1) ∧ (y.2.2.2.2 = -1 ∨ x.2.2.2.2 = y.2.2.2.2)
theorem mm_kle_refl {up : Nat → Int} {k c : Int32} : mm_kle up k c k c := Or.inr (Or.inl ⟨rfl, rfl⟩)
theorem mm_vle_refl {up : Nat → Int} {x : mm_V} : mm_vle up x x := ⟨mm_kle_refl, Or.inl rfl, Int32.or_self, Or.inr rfl⟩
theorem mm_d03 : ¬ (0 : Int32) = 3 := by decide
theorem mm_d23 : ¬ (2 : Int32) = 3 := by decide
theorem mm_d20 : ¬ (2 : Int32) = 0 := by decide
theorem mm_kle_trans {up : Nat → Int} {k c k' c' k'' c'' : Int32} (h1 : mm_kle up k c k' c') (h2 : mm_kle up k' c' k'' c'') : mm_kle up k c k'' c'' := by
  rcases h2 with h2 | ⟨rfl, rfl⟩ | ⟨rfl, rfl⟩ | ⟨rfl, rfl, hb⟩
  · exact Or.inl h2
  · exact h1
  · rcases h1 with h1 | ⟨rfl, rfl⟩ | ⟨_, h1⟩ | ⟨_, h1, _⟩
    · exact absurd h1 (by decide)
    · exact Or.inr (Or.inr (Or.inl ⟨rfl, rfl⟩))
    · exact absurd h1 (by decide)
    · exact absurd h1 (by decide)
  · rcases h1 with h1 | ⟨rfl, rfl⟩ | ⟨h1, _⟩ | ⟨h1, _, hb1⟩
    · exact absurd h1 (by decide)
    · exact Or.inr (Or.inr (Or.inr ⟨rfl, rfl, hb⟩))
    · exact Or.inr (Or.inr (Or.inl ⟨h1, rfl⟩))
    · exact Or.inr (Or.inr (Or.inr ⟨h1, rfl, mm_bel_trans hb1 hb⟩))
theorem mm_or_tr {a b c : Int32} (h1 : a ||| b = b) (h2 : b ||| c = c) : a ||| c = c := by rw [← h2, ← Int32.or_assoc, h1]
theorem mm_and_tr {a b c : Int32} (h1 : a &&& b = b) (h2 : b &&& c = c) : a &&& c = c := by rw [← h2, ← Int32.and_assoc, h1]
theorem mm_vle_trans {up : Nat → Int} {x y z : mm_V} (h1 : mm_vle up x y) (h2 : mm_vle up y z) : mm_vle up x z := by
  refine ⟨mm_kle_trans h1.1 h2.1, ?_, mm_or_tr h1.2.2.1 h2.2.2.1, ?_⟩
  · rcases h1.2.1 with a | ⟨a, b⟩
    · rw [a]; exact h2.2.1
    · rcases h2.2.1 with c | ⟨c, d⟩
      · exact Or.inr ⟨a, by rw [← c]; exact b⟩
      · exact Or.inr ⟨a, d⟩
  · rcases h2.2.2.2 with a | a
    · exact Or.inl a
    · rcases h1.2.2.2 with b | b
      · exact Or.inl (by rw [← a]; exact b)
      · exact Or.inr (b.trans a)
theorem mm_kle_anti {up : Nat → Int} (U : mm_upo up) {k c k' c' : Int32} (hc : k.toInt < 3 → c = -1) (hc' : k'.toInt < 3 → c' = -1) (h6 : c.toInt ≤ 5) (h6' : c'.toInt ≤ 5) (h1 : mm_kle up k c k' c') (h2 : mm_kle up k' c' k c) : k = k' ∧ c = c' := by
  have z : (0 : Int32).toInt = 0 := rfl
  rcases h1 with rfl | h1 | ⟨rfl, rfl⟩ | ⟨rfl, rfl, hb⟩
  · rcases h2 with rfl | ⟨rfl, rfl⟩ | ⟨h2, _⟩ | ⟨h2, _⟩
    · exact ⟨rfl, by rw [hc (by decide), hc' (by decide)]⟩
    · exact ⟨rfl, rfl⟩
    · exact absurd h2 (by decide)
    · exact absurd h2 (by decide)
  · exact h1
  · rcases h2 with h2 | ⟨h2, _⟩ | ⟨h2, _⟩ | ⟨_, h2, _⟩ <;> exact absurd h2 (by decide)
  · rcases h2 with h2 | ⟨_, h2⟩ | ⟨h2, _⟩ | ⟨_, _, h2⟩
    · exact absurd h2 (by decide)
    · exact ⟨rfl, h2.symm⟩
    · exact absurd h2 (by decide)
    · exact ⟨rfl, Int32.toInt_inj.mp (mm_bel_anti U (by omega) (by omega) hb h2)⟩
theorem mm_vr_c {x : mm_V} (h : mm_vr x) : x.2.1.toInt ≤ 5 := by
  by_cases q : x.1.toInt < 3
  · rw [h.2.1 q]; decide
  · exact (h.2.2.1 (by omega)).2
theorem mm_vle_anti {up : Nat → Int} (U : mm_upo up) {x y : mm_V} (hx : mm_vr x) (hy : mm_vr y) (h1 : mm_vle up x y) (h2 : mm_vle up y x) : x = y := by
  obtain ⟨e1, e2⟩ := mm_kle_anti U hx.2.1 hy.2.1 (mm_vr_c hx) (mm_vr_c hy) h1.1 h2.1
  have e3 : x.2.2.1 = y.2.2.1 := by
    rcases h1.2.1 with a | ⟨a, b⟩
    · exact a
    · rcases h2.2.1 with c | ⟨c, d⟩
      · exact c.symm
      · exact absurd (b.symm.trans c) (by decide)
  have e4 : x.2.2.2.1 = y.2.2.2.1 := by
    rw [← h1.2.2.1, Int32.or_comm, h2.2.2.1]
  have e5 : x.2.2.2.2 = y.2.2.2.2 := by
    rcases h1.2.2.2 with a | a
    · rcases h2.2.2.2 with b | b
      · rw [a, b]
      · exact b.symm
    · exact a
  obtain ⟨a, b, c, d, e⟩ := x
  obtain ⟨a', b', c', d', e'⟩ := y
  exact Prod.ext e1 (Prod.ext e2 (Prod.ext e3 (Prod.ext e4 e5)))
/-- joined: kinds -/
def mm_kj (up : Nat → Int) (k c l e r z : Int32) : Prop := (k = 3 ∧ l = 3 ∧ r = 3 ∧ mm_lca up c.toInt e.toInt z.toInt) ∨ (k = l ∧ ¬ k = 3 ∧ r = k ∧ z = c) ∨ (k = 2 ∧ l = 3 ∧ r = 3 ∧ z = e) ∨ (k = 3 ∧ l = 2 ∧ r = 3 ∧ z = c) ∨ (¬ k = l ∧ ¬ (k = 2 ∧ l = 3) ∧ ¬ (k = 3 ∧ l = 2) ∧ r = 0 ∧ z = -1)
def mm_vj (up : Nat → Int) (x y r : mm_V) : Prop := mm_kj up x.1 x.2.1 y.1 y.2.1 r.1 r.2.1 ∧ (r.2.2.1 = x.2.2.1 ||| y.2.2.1) ∧ (r.2.2.2.1 = x.2.2.2.1 ||| y.2.2.2.1) ∧ ((x.2.2.2.2 = y.2.2.2.2 ∧ r.2.2.2.2 = x.2.2.2.2) ∨ (¬ x.2.2.2.2 = y.2.2.2.2 ∧ r.2.2.2.2 = -1))
/-- of both the same kind, the same C (RAW) -/
def mm_raw (x y : mm_V) : Prop := x.1 = y.1 → ¬ x.1 = 3 → x.2.1 = y.2.1
theorem mm_kj_up {up : Nat → Int} {k c l e r z : Int32} (hr : k = l → ¬ k = 3 → c = e) (h : mm_kj up k c l e r z) : mm_kle up k c r z ∧ mm_kle up l e r z := by
  rcases h with ⟨rfl, rfl, rfl, hl⟩ | ⟨rfl, h3, rfl, rfl⟩ | ⟨rfl, rfl, rfl, rfl⟩ | ⟨rfl, rfl, rfl, rfl⟩ | ⟨_, _, _, rfl, rfl⟩
  · exact ⟨Or.inr (Or.inr (Or.inr ⟨rfl, rfl, hl.1⟩)), Or.inr (Or.inr (Or.inr ⟨rfl, rfl, hl.2.1⟩))⟩
  · exact ⟨mm_kle_refl, Or.inr (Or.inl ⟨rfl, (hr rfl h3).symm⟩)⟩
  · exact ⟨Or.inr (Or.inr (Or.inl ⟨rfl, rfl⟩)), mm_kle_refl⟩
  · exact ⟨mm_kle_refl, Or.inr (Or.inr (Or.inl ⟨rfl, rfl⟩))⟩
  · exact ⟨Or.inl rfl, Or.inl rfl⟩
theorem mm_kj_least {up : Nat → Int} (U : mm_upo up) {k c l e r z k' c' : Int32} (h6 : c.toInt ≤ 5) (h : mm_kj up k c l e r z) (h1 : mm_kle up k c k' c') (h2 : mm_kle up l e k' c') : mm_kle up r z k' c' := by
  rcases h with ⟨rfl, rfl, rfl, hl⟩ | ⟨rfl, _, rfl, rfl⟩ | ⟨rfl, rfl, rfl, rfl⟩ | ⟨rfl, rfl, rfl, rfl⟩ | ⟨n1, n2, n3, rfl, rfl⟩
  · have hc0 : 0 ≤ c.toInt := by
      have q1 := hl.1.1
      have q2 := mm_bel_le U (by omega) hl.1
      omega
    rcases h1 with h1 | ⟨rfl, rfl⟩ | ⟨h1, _⟩ | ⟨_, rfl, hb⟩
    · exact Or.inl h1
    · rcases h2 with h2 | ⟨_, h2⟩ | ⟨h2, _⟩ | ⟨_, _, hb2⟩
      · exact absurd h2 (by decide)
      · rw [h2] at hl
        exact Or.inr (Or.inr (Or.inr ⟨rfl, rfl, mm_lca_bel U (by omega) hl (mm_bel_refl hc0) (mm_bel_refl hc0)⟩))
      · exact absurd h2 (by decide)
      · exact Or.inr (Or.inr (Or.inr ⟨rfl, rfl, mm_lca_bel U (by omega) hl (mm_bel_refl hc0) hb2⟩))
    · exact absurd h1 (by decide)
    · rcases h2 with h2 | ⟨_, h2⟩ | ⟨h2, _⟩ | ⟨_, _, hb2⟩
      · exact absurd h2 (by decide)
      · rw [← h2] at hb ⊢
        have he : 0 ≤ e.toInt := hb.1
        exact Or.inr (Or.inr (Or.inr ⟨rfl, rfl, mm_lca_bel U (by omega) hl hb (mm_bel_refl he)⟩))
      · exact absurd h2 (by decide)
      · exact Or.inr (Or.inr (Or.inr ⟨rfl, rfl, mm_lca_bel U (by omega) hl hb hb2⟩))
  · exact h1
  · exact h2
  · exact h1
  · rcases h1 with h1 | ⟨rfl, rfl⟩ | ⟨rfl, rfl⟩ | ⟨rfl, rfl, hb⟩
    · exact Or.inl h1
    · rcases h2 with h2 | ⟨rfl, rfl⟩ | ⟨rfl, rfl⟩ | ⟨rfl, rfl, hb2⟩
      · exact Or.inl h2
      · exact absurd rfl n1
      · exact absurd ⟨rfl, rfl⟩ n3
      · exact absurd rfl n1
    · rcases h2 with h2 | ⟨rfl, rfl⟩ | ⟨rfl, _⟩ | ⟨rfl, _, hb2⟩
      · exact absurd h2 (by decide)
      · exact absurd ⟨rfl, rfl⟩ n2
      · exact absurd rfl n1
      · exact absurd ⟨rfl, rfl⟩ n2
    · rcases h2 with h2 | ⟨rfl, rfl⟩ | ⟨rfl, _⟩ | ⟨rfl, _, hb2⟩
      · exact absurd h2 (by decide)
      · exact absurd rfl n1
      · exact absurd ⟨rfl, rfl⟩ n3
      · exact absurd rfl n1
theorem mm_n01 {a b : Int32} (ha : a = 0 ∨ a = 1) (hb : b = 0 ∨ b = 1) : a ||| b = 0 ∨ a ||| b = 1 := by
  rcases ha with rfl | rfl <;> rcases hb with rfl | rfl <;> decide
theorem mm_vj_up {up : Nat → Int} {x y r : mm_V} (hx : mm_vr x) (hy : mm_vr y) (hr : mm_raw x y) (h : mm_vj up x y r) : mm_vle up x r ∧ mm_vle up y r := by
  obtain ⟨k1, k2⟩ := mm_kj_up hr h.1
  have n1 : ∀ a b : Int32, (a = 0 ∨ a = 1) → (b = 0 ∨ b = 1) → (a = a ||| b ∨ (a = 0 ∧ a ||| b = 1)) ∧ (b = a ||| b ∨ (b = 0 ∧ a ||| b = 1)) := by
    intro a b ha hb
    rcases ha with rfl | rfl <;> rcases hb with rfl | rfl <;> decide
  have n2 := n1 _ _ hx.2.2.2.1 hy.2.2.2.1
  refine ⟨⟨k1, by rw [h.2.1]; exact n2.1, by rw [h.2.2.1, ← Int32.or_assoc, Int32.or_self], ?_⟩, ⟨k2, by rw [h.2.1]; exact n2.2, by rw [h.2.2.1, Int32.or_comm x.2.2.2.1, ← Int32.or_assoc, Int32.or_self], ?_⟩⟩
  · rcases h.2.2.2 with ⟨_, a⟩ | ⟨_, a⟩
    · exact Or.inr a.symm
    · exact Or.inl a
  · rcases h.2.2.2 with ⟨b, a⟩ | ⟨_, a⟩
    · exact Or.inr (by rw [a, b])
    · exact Or.inl a
theorem mm_vj_least {up : Nat → Int} (U : mm_upo up) {x y r z : mm_V} (hx : mm_vr x) (hy : mm_vr y) (h : mm_vj up x y r) (h1 : mm_vle up x z) (h2 : mm_vle up y z) : mm_vle up r z := by
  refine ⟨mm_kj_least U (mm_vr_c hx) h.1 h1.1 h2.1, ?_, ?_, ?_⟩
  · rw [h.2.1]
    rcases h1.2.1 with a | ⟨a, b⟩
    · rcases h2.2.1 with c | ⟨c, d⟩
      · rw [a, c, Int32.or_self]; exact Or.inl rfl
      · rw [a, c, d]; exact Or.inl (by decide)
    · rcases h2.2.1 with c | ⟨c, d⟩
      · rw [a, c, b]; exact Or.inl (by decide)
      · rw [a, c, d]; exact Or.inr (by decide)
  · rw [h.2.2.1, Int32.or_assoc, h2.2.2.1, h1.2.2.1]
  · rcases h.2.2.2 with ⟨b, a⟩ | ⟨b, a⟩
    · rw [a]; exact h1.2.2.2
    · rcases h1.2.2.2 with c | c
      · exact Or.inl c
      · rcases h2.2.2.2 with e | e
        · exact Or.inl e
        · exact absurd (c.trans e.symm) b
end
section
/-! WHAT IS KNOWN IN FRONT OF AN INSTRUCTION: height, site, set, slots; order, joining, rank -/
abbrev mm_F : Type := Int32 × Int32 × Int32 × (Nat → mm_V)
theorem mm_nI_and (a b : Nat) : nI a &&& nI b = nI (a &&& b) := Int32.toBitVec_inj.1 (BitVec.ofNat_and (w := 32)).symm
theorem mm_nI_or (a b : Nat) : nI a ||| nI b = nI (a ||| b) := Int32.toBitVec_inj.1 (BitVec.ofNat_or (w := 32)).symm
/-- a slot of a frame is there -/
abbrev lk_sl (φ : mm_F) (v : Nat) : Prop := (v : Int) < 6 + φ.1.toInt
def mm_fok (na : Int32 → Int32) (φ : mm_F) : Prop := 0 ≤ φ.1.toInt → φ.1.toInt ≤ 4 ∧ (φ.2.1 = -1 → φ.2.2.1 = 0) ∧ (0 ≤ φ.2.2.1.toInt ∧ φ.2.2.1.toInt < 4096) ∧ (-1 ≤ φ.2.1.toInt ∧ φ.2.1.toInt ≤ 19) ∧ ∀ v, lk_sl φ v → mm_vr (φ.2.2.2 v) ∧ ((φ.2.2.2 v).1 = 4 → ¬ φ.2.1 = -1 ∧ (φ.2.2.2 v).2.1 = na φ.2.1) ∧ (v < 6 → (φ.2.2.2 v).2.2.2.2 = -1)
def mm_fle (up : Nat → Int) (φ ψ : mm_F) : Prop := φ.1 = -1 ∨ ψ.1 = -2 ∨ (φ.1 = ψ.1 ∧ 0 ≤ φ.1.toInt ∧ (ψ.2.1 = -1 ∨ (φ.2.1 = ψ.2.1 ∧ φ.2.2.1 &&& ψ.2.2.1 = ψ.2.2.1)) ∧ ∀ v, lk_sl φ v → mm_vle up (φ.2.2.2 v) (ψ.2.2.2 v))
/-- the same, as far as it is known -/
def mm_feq (φ ψ : mm_F) : Prop := φ.1 = ψ.1 ∧ (0 ≤ φ.1.toInt → φ.2.1 = ψ.2.1 ∧ φ.2.2.1 = ψ.2.2.1 ∧ ∀ v, lk_sl φ v → φ.2.2.2 v = ψ.2.2.2 v)
theorem mm_feq_refl {φ : mm_F} : mm_feq φ φ := ⟨rfl, fun _ => ⟨rfl, rfl, fun _ _ => rfl⟩⟩
theorem mm_feq_symm {φ ψ : mm_F} (h : mm_feq φ ψ) : mm_feq ψ φ := ⟨h.1.symm, fun q => by
  obtain ⟨a, b, c⟩ := h.2 (by rw [h.1]; exact q)
  exact ⟨a.symm, b.symm, fun v hv => (c v (show (v : Int) < 6 + φ.1.toInt by rw [h.1]; exact hv)).symm⟩⟩
theorem mm_feq_trans {φ ψ χ : mm_F} (h : mm_feq φ ψ) (h' : mm_feq ψ χ) : mm_feq φ χ := ⟨h.1.trans h'.1, fun q => by
  obtain ⟨a, b, c⟩ := h.2 q
  obtain ⟨a', b', c'⟩ := h'.2 (by rw [← h.1]; exact q)
  exact ⟨a.trans a', b.trans b', fun v hv => (c v hv).trans (c' v (show (v : Int) < 6 + ψ.1.toInt by rw [← h.1]; exact hv))⟩⟩
theorem mm_fok_eq {na : Int32 → Int32} {φ ψ : mm_F} (h : mm_feq φ ψ) (o : mm_fok na φ) : mm_fok na ψ := by
  intro q
  rw [← h.1] at q
  obtain ⟨a, b, c⟩ := h.2 q
  obtain ⟨o1, o2, o3, o4, o5⟩ := o q
  rw [← h.1, ← a, ← b]
  refine ⟨o1, o2, o3, o4, fun v hv => ?_⟩
  have hv' : lk_sl φ v := by show (v : Int) < 6 + φ.1.toInt; rw [h.1]; exact hv
  rw [← c v hv']
  exact o5 v hv'
theorem mm_i12 : ¬ (-1 : Int32) = -2 := by decide
theorem mm_fle_of_eq {up : Nat → Int} {φ ψ : mm_F} (h : mm_feq φ ψ) (hh : φ.1 = -1 ∨ φ.1 = -2 ∨ 0 ≤ φ.1.toInt) : mm_fle up φ ψ := by
  rcases hh with q | q | q
  · exact Or.inl q
  · exact Or.inr (Or.inl (by rw [← h.1]; exact q))
  · obtain ⟨a, b, c⟩ := h.2 q
    exact Or.inr (Or.inr ⟨h.1, q, Or.inr ⟨a, by rw [b, Int32.and_self]⟩, fun v hv => by rw [c v hv]; exact mm_vle_refl⟩)
theorem mm_neg_ne {a : Int32} {n : Int} (h : 0 ≤ a.toInt) (e : a = Int32.ofInt n) (hn : (Int32.ofInt n).toInt < 0) : False := by rw [e] at h; omega
theorem mm_not_m1 {a : Int32} (h : 0 ≤ a.toInt) : ¬ a = -1 := fun e => by rw [e] at h; exact absurd h (by decide)
theorem mm_not_m2 {a : Int32} (h : 0 ≤ a.toInt) : ¬ a = -2 := fun e => by rw [e] at h; exact absurd h (by decide)
theorem mm_fle_trans {up : Nat → Int} {φ ψ χ : mm_F} (h1 : mm_fle up φ ψ) (h2 : mm_fle up ψ χ) : mm_fle up φ χ := by
  rcases h1 with h1 | h1 | ⟨e1, p1, s1, v1⟩
  · exact Or.inl h1
  · rcases h2 with h2 | h2 | ⟨_, p2, _, _⟩
    · exact absurd (h2.symm.trans h1) (by decide)
    · exact Or.inr (Or.inl h2)
    · exact absurd h1 (mm_not_m2 p2)
  · rcases h2 with h2 | h2 | ⟨e2, p2, s2, v2⟩
    · exact absurd (e1.trans h2) (mm_not_m1 p1)
    · exact Or.inr (Or.inl h2)
    · refine Or.inr (Or.inr ⟨e1.trans e2, p1, ?_, fun v hv => mm_vle_trans (v1 v hv) (v2 v (by show (v : Int) < 6 + ψ.1.toInt; rw [← e1]; exact hv))⟩)
      rcases s2 with s2 | ⟨s2, f2⟩
      · exact Or.inl s2
      · rcases s1 with s1 | ⟨s1, f1⟩
        · exact Or.inl (by rw [← s2]; exact s1)
        · exact Or.inr ⟨s1.trans s2, mm_and_tr f1 f2⟩
theorem mm_fle_anti {up : Nat → Int} {na : Int32 → Int32} (U : mm_upo up) {φ ψ : mm_F} (o1 : mm_fok na φ) (o2 : mm_fok na ψ) (h1 : mm_fle up φ ψ) (h2 : mm_fle up ψ φ) : mm_feq φ ψ := by
  rcases h1 with h1 | h1 | ⟨e1, p1, s1, v1⟩
  · rcases h2 with h2 | h2 | ⟨e2, p2, _, _⟩
    · exact ⟨h1.trans h2.symm, fun q => absurd h1 (mm_not_m1 q)⟩
    · exact absurd (h1.symm.trans h2) (by decide)
    · exact absurd (e2.trans h1) (mm_not_m1 p2)
  · rcases h2 with h2 | h2 | ⟨e2, p2, _, _⟩
    · exact absurd (h2.symm.trans h1) (by decide)
    · exact ⟨h2.trans h1.symm, fun q => absurd h2 (mm_not_m2 q)⟩
    · exact absurd h1 (mm_not_m2 p2)
  · rcases h2 with h2 | h2 | ⟨e2, p2, s2, v2⟩
    · exact absurd (e1.trans h2) (mm_not_m1 p1)
    · exact absurd h2 (mm_not_m2 p1)
    · refine ⟨e1, fun _ => ?_⟩
      obtain ⟨_, a2, _, _, a5⟩ := o1 p1
      obtain ⟨_, b2, _, _, b5⟩ := o2 p2
      have es : φ.2.1 = ψ.2.1 := by
        rcases s1 with s1 | s1
        · rcases s2 with s2 | s2
          · rw [s1, s2]
          · exact s2.1.symm
        · exact s1.1
      refine ⟨es, ?_, fun v hv => ?_⟩
      · rcases s1 with s1 | s1
        · rw [a2 (es.trans s1), b2 s1]
        · rcases s2 with s2 | s2
          · rw [a2 s2, b2 (es.symm.trans s2)]
          · rw [← s2.2, Int32.and_comm, s1.2]
      · have hv' : lk_sl ψ v := by show (v : Int) < 6 + ψ.1.toInt; rw [← e1]; exact hv
        exact mm_vle_anti U (a5 v hv).1 (b5 v hv').1 (v1 v hv) (v2 v hv')
/-- what was RAW is not known any more -/
def mm_dr (x : mm_V) : mm_V := if x.1 = 4 then (0, -1, x.2.2) else x
theorem mm_dr_vr {x : mm_V} (h : mm_vr x) : mm_vr (mm_dr x) := by
  unfold mm_dr
  split
  · exact ⟨(by decide : 0 ≤ (0 : Int32).toInt ∧ (0 : Int32).toInt ≤ 4), fun _ => rfl, fun q => absurd q (by decide : ¬ 3 ≤ (0 : Int32).toInt), h.2.2.2⟩
  · exact h
theorem mm_dr_n4 {x : mm_V} : ¬ (mm_dr x).1 = 4 := by
  unfold mm_dr
  split
  · exact (by decide : ¬ (0 : Int32) = 4)
  · assumption
theorem mm_dr_up {up : Nat → Int} {x : mm_V} : mm_vle up x (mm_dr x) := by
  unfold mm_dr
  split
  · exact ⟨Or.inl rfl, Or.inl rfl, Int32.or_self, Or.inr rfl⟩
  · exact mm_vle_refl
theorem mm_dr_o {x : mm_V} : (mm_dr x).2.2.2.2 = x.2.2.2.2 := by
  unfold mm_dr
  split <;> rfl
theorem mm_dr_least {up : Nat → Int} {x z : mm_V} (hz : ¬ z.1 = 4) (h : mm_vle up x z) : mm_vle up (mm_dr x) z := by
  unfold mm_dr
  split
  · rename_i q
    refine ⟨?_, h.2⟩
    rcases h.1 with a | ⟨a, _⟩ | ⟨a, _⟩ | ⟨a, _⟩
    · exact Or.inl a
    · exact absurd (a.symm.trans q) hz
    · exact absurd (a.symm.trans q) (by decide)
    · exact absurd (a.symm.trans q) (by decide)
  · exact h
/-- a slot as it is joined: where the sites are not the same, nothing is RAW -/
noncomputable def mm_ds (P : Prop) (x : mm_V) : mm_V := @ite _ P (Classical.propDecidable P) x (mm_dr x)
def mm_fj (up : Nat → Int) (φ ψ ρ : mm_F) : Prop := ρ.1 = φ.1 ∧ (φ.2.1 = ψ.2.1 → ρ.2.1 = φ.2.1 ∧ ρ.2.2.1 = φ.2.2.1 &&& ψ.2.2.1) ∧ (¬ φ.2.1 = ψ.2.1 → ρ.2.1 = -1 ∧ ρ.2.2.1 = 0) ∧ ∀ v, lk_sl φ v → mm_vj up (mm_ds (φ.2.1 = ψ.2.1) (φ.2.2.2 v)) (mm_ds (φ.2.1 = ψ.2.1) (ψ.2.2.2 v)) (ρ.2.2.2 v)
theorem mm_ds_t {P : Prop} {x : mm_V} (p : P) : mm_ds P x = x := if_pos p
theorem mm_ds_f {P : Prop} {x : mm_V} (p : ¬ P) : mm_ds P x = mm_dr x := if_neg p
theorem mm_ds_vr {P : Prop} {x : mm_V} (h : mm_vr x) : mm_vr (mm_ds P x) := by
  by_cases p : P
  · rw [mm_ds_t p]; exact h
  · rw [mm_ds_f p]; exact mm_dr_vr h
theorem mm_ds_up {P : Prop} {up : Nat → Int} {x : mm_V} : mm_vle up x (mm_ds P x) := by
  by_cases p : P
  · rw [mm_ds_t p]; exact mm_vle_refl
  · rw [mm_ds_f p]; exact mm_dr_up
theorem mm_ds_o {P : Prop} {x : mm_V} : (mm_ds P x).2.2.2.2 = x.2.2.2.2 := by
  by_cases p : P
  · rw [mm_ds_t p]
  · rw [mm_ds_f p]; exact mm_dr_o
theorem mm_k_of {x : mm_V} (h : mm_vr x) (n3 : ¬ x.1 = 3) (n4 : ¬ x.1 = 4) : x.1.toInt < 3 := by
  have a : ¬ x.1.toInt = 3 := fun q => n3 (Int32.toInt_inj.mp (q.trans (by decide : (3 : Int) = (3 : Int32).toInt)))
  have b : ¬ x.1.toInt = 4 := fun q => n4 (Int32.toInt_inj.mp (q.trans (by decide : (4 : Int) = (4 : Int32).toInt)))
  have := h.1
  omega
theorem mm_fj_raw {na : Int32 → Int32} {φ ψ : mm_F} {v : Nat} {P : Prop} (hP : P → φ.2.1 = ψ.2.1) (x1 : mm_vr (φ.2.2.2 v)) (x2 : (φ.2.2.2 v).1 = 4 → ¬ φ.2.1 = -1 ∧ (φ.2.2.2 v).2.1 = na φ.2.1) (y1 : mm_vr (ψ.2.2.2 v)) (y2 : (ψ.2.2.2 v).1 = 4 → ¬ ψ.2.1 = -1 ∧ (ψ.2.2.2 v).2.1 = na ψ.2.1) : mm_raw (mm_ds P (φ.2.2.2 v)) (mm_ds P (ψ.2.2.2 v)) := by
  intro ek n3
  have z1 : mm_vr (mm_ds P (φ.2.2.2 v)) := mm_ds_vr x1
  have z2 : mm_vr (mm_ds P (ψ.2.2.2 v)) := mm_ds_vr y1
  by_cases q : (mm_ds P (φ.2.2.2 v)).1 = 4
  · by_cases p : P
    · rw [mm_ds_t p] at q ek ⊢
      rw [mm_ds_t p] at ek ⊢
      rw [(x2 q).2, (y2 (ek.symm.trans q)).2, hP p]
    · rw [mm_ds_f p] at q
      exact absurd q mm_dr_n4
  · have a := mm_k_of z1 n3 q
    rw [z1.2.1 a, z2.2.1 (by rw [← ek]; exact a)]
theorem mm_fj_up {up : Nat → Int} {na : Int32 → Int32} {φ ψ ρ : mm_F} (hh : φ.1 = ψ.1) (h0 : 0 ≤ φ.1.toInt) (o1 : mm_fok na φ) (o2 : mm_fok na ψ) (j : mm_fj up φ ψ ρ) : mm_fle up φ ρ ∧ mm_fle up ψ ρ := by
  obtain ⟨_, a2, _, _, a5⟩ := o1 h0
  obtain ⟨_, b2, _, _, b5⟩ := o2 (by rw [← hh]; exact h0)
  obtain ⟨j1, j2, j3, j4⟩ := j
  have hsl : ∀ v, lk_sl ψ v → lk_sl φ v := fun v hv => by show (v : Int) < 6 + φ.1.toInt; rw [hh]; exact hv
  have hsl' : ∀ v, lk_sl φ v → lk_sl ψ v := fun v hv => by show (v : Int) < 6 + ψ.1.toInt; rw [← hh]; exact hv
  have hv : ∀ v, lk_sl φ v → mm_vle up (mm_ds (φ.2.1 = ψ.2.1) (φ.2.2.2 v)) (ρ.2.2.2 v) ∧ mm_vle up (mm_ds (φ.2.1 = ψ.2.1) (ψ.2.2.2 v)) (ρ.2.2.2 v) := by
    intro v hv
    obtain ⟨x1, x2, x3⟩ := a5 v hv
    obtain ⟨y1, y2, y3⟩ := b5 v (hsl' v hv)
    exact mm_vj_up (mm_ds_vr x1) (mm_ds_vr y1) (mm_fj_raw (fun q => q) x1 x2 y1 y2) (j4 v hv)
  by_cases p : φ.2.1 = ψ.2.1
  · obtain ⟨k1, k2⟩ := j2 p
    refine ⟨Or.inr (Or.inr ⟨j1.symm, h0, Or.inr ⟨k1.symm, ?_⟩, fun v q => ?_⟩), Or.inr (Or.inr ⟨hh.symm.trans j1.symm, by rw [← hh]; exact h0, Or.inr ⟨p.symm.trans k1.symm, ?_⟩, fun v q => ?_⟩)⟩
    · rw [k2, ← Int32.and_assoc, Int32.and_self]
    · exact mm_vle_trans mm_ds_up (hv v q).1
    · rw [k2, Int32.and_comm φ.2.2.1, ← Int32.and_assoc, Int32.and_self]
    · exact mm_vle_trans mm_ds_up (hv v (hsl v q)).2
  · obtain ⟨k1, k2⟩ := j3 p
    refine ⟨Or.inr (Or.inr ⟨j1.symm, h0, Or.inl k1, fun v q => ?_⟩), Or.inr (Or.inr ⟨hh.symm.trans j1.symm, by rw [← hh]; exact h0, Or.inl k1, fun v q => ?_⟩)⟩
    · exact mm_vle_trans mm_ds_up (hv v q).1
    · exact mm_vle_trans mm_ds_up (hv v (hsl v q)).2
theorem mm_fj_least {up : Nat → Int} {na : Int32 → Int32} (U : mm_upo up) {φ ψ ρ χ : mm_F} (hh : φ.1 = ψ.1) (h0 : 0 ≤ φ.1.toInt) (o1 : mm_fok na φ) (o2 : mm_fok na ψ) (o3 : mm_fok na χ) (j : mm_fj up φ ψ ρ) (h1 : mm_fle up φ χ) (h2 : mm_fle up ψ χ) : mm_fle up ρ χ := by
  obtain ⟨_, a2, _, _, a5⟩ := o1 h0
  obtain ⟨_, b2, _, _, b5⟩ := o2 (by rw [← hh]; exact h0)
  obtain ⟨j1, j2, j3, j4⟩ := j
  rcases h1 with h1 | h1 | ⟨e1, p1, s1, v1⟩
  · exact absurd h1 (mm_not_m1 h0)
  · exact Or.inr (Or.inl h1)
  · rcases h2 with h2 | h2 | ⟨e2, p2, s2, v2⟩
    · exact absurd (hh.trans h2) (mm_not_m1 h0)
    · exact Or.inr (Or.inl h2)
    · have h3 : 0 ≤ χ.1.toInt := by rw [← e1]; exact h0
      obtain ⟨_, c2, _, _, c5⟩ := o3 h3
      have hsl' : ∀ v, lk_sl φ v → lk_sl ψ v := fun v hv => by show (v : Int) < 6 + ψ.1.toInt; rw [← hh]; exact hv
      have hsr : ∀ v, lk_sl ρ v → lk_sl φ v := fun v hv => by show (v : Int) < 6 + φ.1.toInt; rw [← j1]; exact hv
      have hsc : ∀ v, lk_sl φ v → lk_sl χ v := fun v hv => by show (v : Int) < 6 + χ.1.toInt; rw [← e1]; exact hv
      by_cases p : φ.2.1 = ψ.2.1
      · obtain ⟨k1, k2⟩ := j2 p
        refine Or.inr (Or.inr ⟨j1.trans e1, by rw [j1]; exact h0, ?_, fun v q => ?_⟩)
        · rcases s1 with s1 | ⟨s1, f1⟩
          · exact Or.inl s1
          · rcases s2 with s2 | ⟨s2, f2⟩
            · exact Or.inl s2
            · exact Or.inr ⟨k1.trans s1, by rw [k2, Int32.and_assoc, f2, f1]⟩
        · have q' := hsr v q
          have jv := j4 v q'
          rw [mm_ds_t p, mm_ds_t p] at jv
          exact mm_vj_least U (a5 v q').1 (b5 v (hsl' v q')).1 jv (v1 v q') (v2 v (hsl' v q'))
      · obtain ⟨k1, k2⟩ := j3 p
        have sm : χ.2.1 = -1 := by
          rcases s1 with s1 | ⟨s1, _⟩
          · exact s1
          · rcases s2 with s2 | ⟨s2, _⟩
            · exact s2
            · exact absurd (s1.trans s2.symm) p
        refine Or.inr (Or.inr ⟨j1.trans e1, by rw [j1]; exact h0, Or.inl sm, fun v q => ?_⟩)
        have q' := hsr v q
        have jv := j4 v q'
        rw [mm_ds_f p, mm_ds_f p] at jv
        have n4 : ¬ (χ.2.2.2 v).1 = 4 := fun z => ((c5 v (hsc v q')).2.1 z).1 sm
        exact mm_vj_least U (mm_dr_vr (a5 v q').1) (mm_dr_vr (b5 v (hsl' v q')).1) jv (mm_dr_least n4 (v1 v q')) (mm_dr_least n4 (v2 v (hsl' v q')))
theorem mm_or15 {a b : Int32} (ha : 0 ≤ a.toInt ∧ a.toInt ≤ 15) (hb : 0 ≤ b.toInt ∧ b.toInt ≤ 15) : 0 ≤ (a ||| b).toInt ∧ (a ||| b).toInt ≤ 15 := by
  obtain ⟨i, hi, rfl⟩ := mm_of (N := 16) (x := a) (by omega)
  obtain ⟨k, hk, rfl⟩ := mm_of (N := 16) (x := b) (by omega)
  rw [mm_nI_or]
  have := Nat.or_lt_two_pow (n := 4) hi hk
  rw [mm_nt (by omega)]
  omega
theorem mm_and12 {a b : Int32} (ha : 0 ≤ a.toInt ∧ a.toInt < 4096) (hb : 0 ≤ b.toInt ∧ b.toInt < 4096) : 0 ≤ (a &&& b).toInt ∧ (a &&& b).toInt < 4096 := by
  obtain ⟨i, hi, rfl⟩ := mm_of (N := 4096) (x := a) (by omega)
  obtain ⟨k, hk, rfl⟩ := mm_of (N := 4096) (x := b) (by omega)
  rw [mm_nI_and]
  have : i &&& k ≤ i := Nat.and_le_left
  rw [mm_nt (by omega)]
  omega
theorem mm_vj_vr {up : Nat → Int} (U : mm_upo up) {x y r : mm_V} (hx : mm_vr x) (hy : mm_vr y) (j : mm_vj up x y r) : mm_vr r ∧ (r.1 = 4 → x.1 = 4 ∧ y.1 = 4 ∧ r.2.1 = x.2.1) := by
  obtain ⟨kj, jn, jw, jo⟩ := j
  have t3 : (3 : Int32).toInt = 3 := by decide
  have kk : (0 ≤ r.1.toInt ∧ r.1.toInt ≤ 4) ∧ (r.1.toInt < 3 → r.2.1 = -1) ∧ (3 ≤ r.1.toInt → 0 ≤ r.2.1.toInt ∧ r.2.1.toInt ≤ 5) ∧ (r.1 = 4 → x.1 = 4 ∧ y.1 = 4 ∧ r.2.1 = x.2.1) := by
    rcases kj with ⟨kx, ky, kr, kl⟩ | ⟨kx, k3, kr, kz⟩ | ⟨kx, ky, kr, kz⟩ | ⟨kx, ky, kr, kz⟩ | ⟨_, _, _, kr, kz⟩
    · rw [kr]
      have hc := hx.2.2.1 (by rw [kx, t3]; omega)
      have := mm_bel_le U (by omega) kl.1
      exact ⟨by decide, fun q => absurd q (by decide), fun _ => ⟨kl.1.1, by omega⟩, fun q => absurd q (by decide)⟩
    · rw [kr, kz]
      exact ⟨hx.1, hx.2.1, hx.2.2.1, fun q => ⟨q, by rw [← kx]; exact q, rfl⟩⟩
    · rw [kr, kz]
      exact ⟨by decide, fun q => absurd q (by decide), fun _ => hy.2.2.1 (by rw [ky, t3]; omega), fun q => absurd q (by decide)⟩
    · rw [kr, kz]
      exact ⟨by decide, fun q => absurd q (by decide), fun _ => hx.2.2.1 (by rw [kx, t3]; omega), fun q => absurd q (by decide)⟩
    · rw [kr, kz]
      exact ⟨by decide, fun q => rfl, fun q => absurd q (by decide), fun q => absurd q (by decide)⟩
  refine ⟨⟨kk.1, kk.2.1, kk.2.2.1, ?_, ?_, ?_⟩, kk.2.2.2⟩
  · rw [jn]; exact mm_n01 hx.2.2.2.1 hy.2.2.2.1
  · rw [jw]; exact mm_or15 hx.2.2.2.2.1 hy.2.2.2.2.1
  · rcases jo with ⟨_, a⟩ | ⟨_, a⟩
    · rw [a]; exact hx.2.2.2.2.2
    · rw [a]; decide
theorem mm_fj_ok {up : Nat → Int} {na : Int32 → Int32} (U : mm_upo up) {φ ψ ρ : mm_F} (hh : φ.1 = ψ.1) (h0 : 0 ≤ φ.1.toInt) (o1 : mm_fok na φ) (o2 : mm_fok na ψ) (j : mm_fj up φ ψ ρ) : mm_fok na ρ := by
  intro _
  obtain ⟨a1, a2, a3, a4, a5⟩ := o1 h0
  obtain ⟨_, b2, b3, b4, b5⟩ := o2 (by rw [← hh]; exact h0)
  obtain ⟨j1, j2, j3, j4⟩ := j
  have hsl' : ∀ v, lk_sl φ v → lk_sl ψ v := fun v hv => by show (v : Int) < 6 + ψ.1.toInt; rw [← hh]; exact hv
  have hsr : ∀ v, lk_sl ρ v → lk_sl φ v := fun v hv => by show (v : Int) < 6 + φ.1.toInt; rw [← j1]; exact hv
  have hv : ∀ v, lk_sl φ v → v < 6 → (ρ.2.2.2 v).2.2.2.2 = -1 := by
    intro v q q6
    rcases (j4 v q).2.2.2 with ⟨_, a⟩ | ⟨_, a⟩
    · rw [a, mm_ds_o]; exact (a5 v q).2.2 q6
    · exact a
  by_cases p : φ.2.1 = ψ.2.1
  · obtain ⟨k1, k2⟩ := j2 p
    refine ⟨by rw [j1]; exact a1, fun q => ?_, by rw [k2]; exact mm_and12 a3 b3, by rw [k1]; exact a4, fun v q => ?_⟩
    · rw [k2, a2 (k1.symm.trans q)]; exact Int32.zero_and
    · have q' := hsr v q
      have jv := j4 v q'
      rw [mm_ds_t p, mm_ds_t p] at jv
      obtain ⟨r1, r2⟩ := mm_vj_vr U (a5 v q').1 (b5 v (hsl' v q')).1 jv
      refine ⟨r1, fun z => ?_, hv v q'⟩
      rw [k1, (r2 z).2.2]
      exact (a5 v q').2.1 (r2 z).1
  · obtain ⟨k1, k2⟩ := j3 p
    refine ⟨by rw [j1]; exact a1, fun q => k2, by rw [k2]; decide, by rw [k1]; decide, fun v q => ?_⟩
    have q' := hsr v q
    have jv := j4 v q'
    rw [mm_ds_f p, mm_ds_f p] at jv
    obtain ⟨r1, r2⟩ := mm_vj_vr U (mm_dr_vr (a5 v q').1) (mm_dr_vr (b5 v (hsl' v q')).1) jv
    exact ⟨r1, fun z => absurd (r2 z).1 mm_dr_n4, hv v q'⟩
end
section
/-! RANKS: what is raised gets a higher one -/
def lk_vk (x : mm_V) : Nat := if x.1 = 0 then 7 else if x.1 = 3 then (6 - x.2.1.toInt).toNat else 0
def lk_vn (x : mm_V) : Nat := lk_vk x + x.2.2.1.toInt.toNat + x.2.2.2.1.toInt.toNat + (if x.2.2.2.2 = -1 then 1 else 0)
theorem lk_vk_le {up : Nat → Int} (U : mm_upo up) {x y : mm_V} (hx : mm_vr x) (hy : mm_vr y) (h : mm_kle up x.1 x.2.1 y.1 y.2.1) : lk_vk x ≤ lk_vk y ∧ (lk_vk x = lk_vk y → x.1 = y.1 ∧ x.2.1 = y.2.1) := by
  have t3 : (3 : Int32).toInt = 3 := by decide
  have t0 : (0 : Int32).toInt = 0 := by decide
  rcases h with h | ⟨h1, h2⟩ | ⟨h1, h2⟩ | ⟨h1, h2, h3⟩
  · have ey : lk_vk y = 7 := if_pos h
    have cy : y.2.1 = -1 := hy.2.1 (by rw [h, t0]; omega)
    rw [ey]
    by_cases q : x.1 = 0
    · have ex : lk_vk x = 7 := if_pos q
      rw [ex]
      exact ⟨by omega, fun _ => ⟨q.trans h.symm, by rw [cy]; exact hx.2.1 (by rw [q, t0]; omega)⟩⟩
    · have : lk_vk x ≤ 6 := by
        unfold lk_vk
        rw [if_neg q]
        split
        · rename_i q3
          have := hx.2.2.1 (by rw [q3, t3]; omega)
          omega
        · omega
      exact ⟨by omega, fun z => by omega⟩
  · unfold lk_vk
    rw [h1, h2]
    exact ⟨Nat.le_refl _, fun _ => ⟨rfl, rfl⟩⟩
  · have ex : lk_vk x = 0 := by
      unfold lk_vk
      rw [if_neg (by rw [h1]; decide), if_neg (by rw [h1]; decide)]
    have ey : lk_vk y = (6 - y.2.1.toInt).toNat := by
      unfold lk_vk
      rw [if_neg (by rw [h2]; decide), if_pos h2]
    have := hy.2.2.1 (by rw [h2, t3]; omega)
    rw [ex, ey]
    exact ⟨by omega, fun z => by omega⟩
  · have ex : lk_vk x = (6 - x.2.1.toInt).toNat := by
      unfold lk_vk
      rw [if_neg (by rw [h1]; decide), if_pos h1]
    have ey : lk_vk y = (6 - y.2.1.toInt).toNat := by
      unfold lk_vk
      rw [if_neg (by rw [h2]; decide), if_pos h2]
    have cx := hx.2.2.1 (by rw [h1, t3]; omega)
    have cy := hy.2.2.1 (by rw [h2, t3]; omega)
    have := mm_bel_le U (by omega) h3
    rw [ex, ey]
    exact ⟨by omega, fun z => ⟨h1.trans h2.symm, Int32.toInt_inj.mp (by omega)⟩⟩
theorem lk_or_le {a b : Int32} (ha : 0 ≤ a.toInt ∧ a.toInt ≤ 15) (hb : 0 ≤ b.toInt ∧ b.toInt ≤ 15) (h : a ||| b = b) : a.toInt ≤ b.toInt := by
  obtain ⟨i, hi, rfl⟩ := mm_of (N := 16) (x := a) (by omega)
  obtain ⟨k, hk, rfl⟩ := mm_of (N := 16) (x := b) (by omega)
  have e : i ||| k = k := by
    rw [mm_nI_or] at h
    exact (nI_eq (by have := Nat.or_lt_two_pow (n := 4) hi hk; omega) (by omega)).mp h
  have : i ≤ i ||| k := Nat.left_le_or
  rw [mm_nt (by omega), mm_nt (by omega)]
  omega
theorem lk_vn_le {up : Nat → Int} (U : mm_upo up) {x y : mm_V} (hx : mm_vr x) (hy : mm_vr y) (h : mm_vle up x y) : lk_vn x ≤ lk_vn y ∧ (lk_vn x = lk_vn y → x = y) := by
  obtain ⟨k1, k2⟩ := lk_vk_le U hx hy h.1
  have n1 : x.2.2.1.toInt.toNat ≤ y.2.2.1.toInt.toNat ∧ (x.2.2.1.toInt.toNat = y.2.2.1.toInt.toNat → x.2.2.1 = y.2.2.1) := by
    rcases h.2.1 with a | ⟨a, b⟩
    · rw [a]; exact ⟨Nat.le_refl _, fun _ => rfl⟩
    · rw [a, b]; decide
  have w1 := lk_or_le hx.2.2.2.2.1 hy.2.2.2.2.1 h.2.2.1
  have o1 : (if x.2.2.2.2 = -1 then 1 else 0 : Nat) ≤ (if y.2.2.2.2 = -1 then 1 else 0 : Nat) ∧ ((if x.2.2.2.2 = -1 then 1 else 0 : Nat) = (if y.2.2.2.2 = -1 then 1 else 0 : Nat) → x.2.2.2.2 = y.2.2.2.2) := by
    rcases h.2.2.2 with a | a
    · rw [if_pos a]
      split
      · rename_i q
        exact ⟨Nat.le_refl _, fun _ => q.trans a.symm⟩
      · exact ⟨by omega, fun z => by omega⟩
    · rw [a]; exact ⟨Nat.le_refl _, fun _ => rfl⟩
  have hw := hx.2.2.2.2.1
  have hw' := hy.2.2.2.2.1
  unfold lk_vn
  generalize (if x.2.2.2.2 = -1 then 1 else 0 : Nat) = ox at o1 ⊢
  generalize (if y.2.2.2.2 = -1 then 1 else 0 : Nat) = oy at o1 ⊢
  refine ⟨by omega, fun z => ?_⟩
  have e1 := k2 (by omega)
  have e2 := n1.2 (by omega)
  have e3 : x.2.2.2.1 = y.2.2.2.1 := Int32.toInt_inj.mp (by omega)
  have e4 := o1.2 (by omega)
  obtain ⟨a, b, c, d, e⟩ := x
  obtain ⟨a', b', c', d', e'⟩ := y
  exact Prod.ext e1.1 (Prod.ext e1.2 (Prod.ext e2 (Prod.ext e3 e4)))
theorem lk_vn_24 {x : mm_V} (hx : mm_vr x) : lk_vn x ≤ 24 := by
  have t3 : (3 : Int32).toInt = 3 := by decide
  have a : lk_vk x ≤ 7 := by
    unfold lk_vk
    split
    · omega
    · split
      · rename_i q3
        have := hx.2.2.1 (by rw [q3, t3]; omega)
        omega
      · omega
  have b : x.2.2.1.toInt.toNat ≤ 1 := by
    rcases hx.2.2.2.1 with q | q <;> rw [q] <;> decide
  have c := hx.2.2.2.2.1
  have d : (if x.2.2.2.2 = -1 then 1 else 0 : Nat) ≤ 1 := by split <;> omega
  unfold lk_vn
  omega
/-- how many of the low bits are set -/
def lk_pc : Nat → Nat → Nat
  | 0, _ => 0
  | k + 1, n => n % 2 + lk_pc k (n / 2)
theorem lk_pc_le : ∀ (k a b : Nat), a &&& b = b → lk_pc k b ≤ lk_pc k a ∧ (lk_pc k b = lk_pc k a → b % 2 ^ k = a % 2 ^ k) := by
  intro k
  induction k with
  | zero => intro a b _; exact ⟨Nat.le_refl _, fun _ => by rw [Nat.pow_zero, Nat.mod_one, Nat.mod_one]⟩
  | succ k ih =>
    intro a b h
    have h2 : a / 2 &&& b / 2 = b / 2 := by rw [← Nat.and_div_two, h]
    obtain ⟨i1, i2⟩ := ih _ _ h2
    have h3 : b % 2 ≤ a % 2 := by
      by_cases q : b % 2 = 1
      · have := (Nat.and_mod_two_eq_one (a := a) (b := b)).mp (by rw [h]; exact q)
        omega
      · omega
    show b % 2 + lk_pc k (b / 2) ≤ a % 2 + lk_pc k (a / 2) ∧ _
    refine ⟨by omega, fun z => ?_⟩
    have z' : b % 2 + lk_pc k (b / 2) = a % 2 + lk_pc k (a / 2) := z
    have e := i2 (by omega)
    rw [Nat.pow_succ, Nat.mul_comm, Nat.mod_mul, Nat.mod_mul, e]
    omega
theorem lk_pc_max : ∀ (k n : Nat), lk_pc k n ≤ k := by
  intro k
  induction k with
  | zero => intro n; exact Nat.le_refl _
  | succ k ih =>
    intro n
    show n % 2 + lk_pc k (n / 2) ≤ k + 1
    have := ih (n / 2)
    omega
def lk_sn (φ : mm_F) : Nat := if φ.2.1 = -1 then 13 else 12 - lk_pc 12 φ.2.2.1.toInt.toNat
theorem lk_sn_13 {φ : mm_F} : lk_sn φ ≤ 13 := by
  unfold lk_sn
  split <;> omega
def lk_sum (g : Nat → Nat) : Nat → Nat
  | 0 => 0
  | n + 1 => lk_sum g n + g n
theorem lk_sum_le {g g' : Nat → Nat} : ∀ n, (∀ v, v < n → g v ≤ g' v) → lk_sum g n ≤ lk_sum g' n ∧ (lk_sum g n = lk_sum g' n → ∀ v, v < n → g v = g' v) := by
  intro n
  induction n with
  | zero => intro _; exact ⟨Nat.le_refl _, fun _ v hv => absurd hv (Nat.not_lt_zero v)⟩
  | succ n ih =>
    intro h
    obtain ⟨i1, i2⟩ := ih (fun v hv => h v (by omega))
    have h2 := h n (by omega)
    show lk_sum g n + g n ≤ lk_sum g' n + g' n ∧ _
    refine ⟨by omega, fun z v hv => ?_⟩
    have z' : lk_sum g n + g n = lk_sum g' n + g' n := z
    rcases Nat.lt_or_ge v n with q | q
    · exact i2 (by omega) v q
    · rw [show v = n by omega]; omega
theorem lk_sum_max {g : Nat → Nat} {B : Nat} : ∀ n, (∀ v, v < n → g v ≤ B) → lk_sum g n ≤ n * B := by
  intro n
  induction n with
  | zero => intro _; exact Nat.zero_le _
  | succ n ih =>
    intro h
    have h1 := ih (fun v hv => h v (by omega))
    have h2 := h n (by omega)
    show lk_sum g n + g n ≤ (n + 1) * B
    rw [Nat.succ_mul]
    omega
noncomputable def lk_fn (φ : mm_F) : Nat := @ite _ (φ.1 = -2) (Classical.propDecidable _) 255 (@ite _ (φ.1.toInt < 0) (Classical.propDecidable _) 0 (1 + lk_sn φ + lk_sum (fun v => lk_vn (φ.2.2.2 v)) (6 + φ.1.toInt).toNat))
theorem lk_fn_top {φ : mm_F} (h : φ.1 = -2) : lk_fn φ = 255 := if_pos h
theorem lk_fn_bot {φ : mm_F} (h : ¬ φ.1 = -2) (h1 : φ.1.toInt < 0) : lk_fn φ = 0 := (if_neg h).trans (if_pos h1)
theorem lk_fn_in {φ : mm_F} (h1 : 0 ≤ φ.1.toInt) : lk_fn φ = 1 + lk_sn φ + lk_sum (fun v => lk_vn (φ.2.2.2 v)) (6 + φ.1.toInt).toNat := (if_neg (mm_not_m2 h1)).trans (if_neg (by omega))
theorem lk_fn_254 {na : Int32 → Int32} {φ : mm_F} (h1 : 0 ≤ φ.1.toInt) (o : mm_fok na φ) : lk_fn φ ≤ 254 := by
  rw [lk_fn_in h1]
  obtain ⟨a1, _, _, _, a5⟩ := o h1
  have h2 := lk_sum_max (g := fun v => lk_vn (φ.2.2.2 v)) (B := 24) (6 + φ.1.toInt).toNat (fun v hv => lk_vn_24 (a5 v (by show (v : Int) < 6 + φ.1.toInt; omega)).1)
  have h3 : (6 + φ.1.toInt).toNat ≤ 10 := by omega
  have h4 := Nat.mul_le_mul_right 24 h3
  have h5 := lk_sn_13 (φ := φ)
  omega
theorem lk_fn_max {na : Int32 → Int32} {φ : mm_F} (o : mm_fok na φ) : lk_fn φ ≤ 255 := by
  by_cases q : φ.1 = -2
  · rw [lk_fn_top q]; omega
  · by_cases q2 : φ.1.toInt < 0
    · rw [lk_fn_bot q q2]; omega
    · have := lk_fn_254 (by omega) o
      omega
theorem lk_fn_le {up : Nat → Int} {na : Int32 → Int32} (U : mm_upo up) {φ ψ : mm_F} (o1 : mm_fok na φ) (o2 : mm_fok na ψ) (hg : φ.1 = -1 → ψ.1 = -1 ∨ ψ.1 = -2 ∨ 0 ≤ ψ.1.toInt) (h : mm_fle up φ ψ) : lk_fn φ ≤ lk_fn ψ ∧ (lk_fn φ = lk_fn ψ → mm_feq φ ψ) := by
  have m1 : ¬ (-1 : Int32) = -2 := by decide
  rcases h with h | h | ⟨e, p, s, v⟩
  · rw [lk_fn_bot (φ := φ) (by rw [h]; decide) (by rw [h]; decide)]
    refine ⟨Nat.zero_le _, fun z => ?_⟩
    rcases hg h with q | q | q
    · exact ⟨h.trans q.symm, fun a => absurd h (mm_not_m1 a)⟩
    · rw [lk_fn_top q] at z; omega
    · rw [lk_fn_in q] at z; omega
  · rw [lk_fn_top h]
    refine ⟨lk_fn_max o1, fun z => ?_⟩
    by_cases q : φ.1 = -2
    · exact ⟨q.trans h.symm, fun a => absurd q (mm_not_m2 a)⟩
    · by_cases q2 : φ.1.toInt < 0
      · rw [lk_fn_bot q q2] at z; omega
      · have := lk_fn_254 (by omega) o1
        omega
  · have p' : 0 ≤ ψ.1.toInt := by rw [← e]; exact p
    rw [lk_fn_in p, lk_fn_in p', ← e]
    obtain ⟨_, a2, a3, _, a5⟩ := o1 p
    obtain ⟨_, b2, b3, _, b5⟩ := o2 p'
    have hs : lk_sn φ ≤ lk_sn ψ ∧ (lk_sn φ = lk_sn ψ → φ.2.1 = ψ.2.1 ∧ φ.2.2.1 = ψ.2.2.1) := by
      rcases s with s | ⟨s, f⟩
      · have e1 : lk_sn ψ = 13 := if_pos s
        rw [e1]
        refine ⟨lk_sn_13, fun z => ?_⟩
        by_cases q : φ.2.1 = -1
        · exact ⟨q.trans s.symm, by rw [a2 q, b2 s]⟩
        · have : lk_sn φ = 12 - lk_pc 12 φ.2.2.1.toInt.toNat := if_neg q
          omega
      · by_cases q : ψ.2.1 = -1
        · have e1 : lk_sn ψ = 13 := if_pos q
          have e2 : lk_sn φ = 13 := if_pos (s.trans q)
          rw [e1, e2]
          exact ⟨Nat.le_refl _, fun _ => ⟨s, by rw [a2 (s.trans q), b2 q]⟩⟩
        · have e1 : lk_sn ψ = 12 - lk_pc 12 ψ.2.2.1.toInt.toNat := if_neg q
          have e2 : lk_sn φ = 12 - lk_pc 12 φ.2.2.1.toInt.toNat := if_neg (fun z => q (s.symm.trans z))
          obtain ⟨i, hi, ei⟩ := mm_of (N := 4096) (x := φ.2.2.1) (by omega)
          obtain ⟨k, hk, ek⟩ := mm_of (N := 4096) (x := ψ.2.2.1) (by omega)
          rw [ei, ek, mm_nI_and] at f
          have f' : i &&& k = k := (nI_eq (by have : i &&& k ≤ i := Nat.and_le_left; omega) (by omega)).mp f
          obtain ⟨l1, l2⟩ := lk_pc_le 12 i k f'
          have m1 := lk_pc_max 12 i
          have m2 := lk_pc_max 12 k
          rw [e1, e2, ei, ek, mm_nt (by omega), mm_nt (by omega)]
          show 12 - lk_pc 12 i ≤ 12 - lk_pc 12 k ∧ (12 - lk_pc 12 i = 12 - lk_pc 12 k → _)
          refine ⟨by omega, fun z => ⟨s, ?_⟩⟩
          have := l2 (by omega)
          rw [Nat.mod_eq_of_lt (by omega), Nat.mod_eq_of_lt (by omega)] at this
          rw [this]
    have hv : ∀ w, w < (6 + φ.1.toInt).toNat → lk_vn (φ.2.2.2 w) ≤ lk_vn (ψ.2.2.2 w) ∧ (lk_vn (φ.2.2.2 w) = lk_vn (ψ.2.2.2 w) → φ.2.2.2 w = ψ.2.2.2 w) := by
      intro w hw
      have w1 : lk_sl φ w := by show (w : Int) < 6 + φ.1.toInt; omega
      have w2 : lk_sl ψ w := by show (w : Int) < 6 + ψ.1.toInt; rw [← e]; omega
      exact lk_vn_le U (a5 w w1).1 (b5 w w2).1 (v w w1)
    obtain ⟨s1, s2⟩ := lk_sum_le (g := fun w => lk_vn (φ.2.2.2 w)) (g' := fun w => lk_vn (ψ.2.2.2 w)) (6 + φ.1.toInt).toNat (fun w hw => (hv w hw).1)
    refine ⟨by omega, fun z => ⟨e, fun _ => ?_⟩⟩
    obtain ⟨z1, z2⟩ := hs.2 (by omega)
    exact ⟨z1, z2, fun w hw => (hv w (by have : (w : Int) < 6 + φ.1.toInt := hw; omega)).2 (s2 (by omega) w (by have : (w : Int) < 6 + φ.1.toInt := hw; omega))⟩
end
section
/-! WHAT COMES OUT OF AN INSTRUCTION -/
def lk_up (g : Nat → mm_V) (j : Nat) (x : mm_V) : Nat → mm_V := fun v => if v = j then x else g v
theorem lk_up_t {g : Nat → mm_V} {j : Nat} {x : mm_V} : lk_up g j x j = x := if_pos rfl
theorem lk_up_f {g : Nat → mm_V} {j v : Nat} {x : mm_V} (h : ¬ v = j) : lk_up g j x v = g v := if_neg h
def lk_wo (x : mm_V) (o : Int32) : mm_V := (x.1, x.2.1, x.2.2.1, x.2.2.2.1, o)
def lk_st (g : Nat → mm_V) (a : Nat) (x : mm_V) : Nat → mm_V := fun v => if v = a then lk_wo x (-1) else if 6 ≤ v ∧ (g v).2.2.2.2 = nI a then lk_wo (g v) (-1) else g v
def lk_rf (x : mm_V) : mm_V := if x.1 = 4 then (3, x.2) else x
def lk_sv (s n w : Int32) : mm_V := if s = -1 then (1, -1, 0, w, -1) else (3, s, n, w, -1)
def lk_bt (f : Int32) (a : Nat) : Prop := f >>> (nI a &&& 31) &&& 1 = 0
def lk_un (f : Int32) (a : Nat) (x : mm_V) : Prop := x.1 = 0 ∨ x.1 = 1 ∨ (x.1 = 4 ∧ lk_bt f a)
def lk_o (h : mm_H) (m i : Nat) : Nat := (mm_a h 97 (20 * m + i)).toInt.toNat
def lk_a (h : mm_H) (m i : Nat) : Nat := (mm_a h 98 (20 * m + i)).toInt.toNat
def lk_np (h : mm_H) (a : Nat) : Nat := (mm_a h 89 a).toInt.toNat
def lk_po (h : mm_H) (m o a : Nat) : Nat := if o = 11 then lk_np h a + (if mm_a h 95 a = 0 then 1 else 0) else if o = 16 then (if mm_a h 93 (4 * m + 3) = -2 then 0 else 1) else [0, 0, 0, 1, 1, 1, 2, 0, 1, 1, 2, 0, 1, 0, 1, 1, 0, 1].getD o 0
def lk_pu (h : mm_H) (o a : Nat) : Nat := if o = 11 then (if mm_a h 93 (4 * a + 3) = -2 then 0 else 1) else [1, 1, 1, 0, 2, 0, 1, 1, 1, 1, 0, 0, 1, 0, 0, 0, 0, 0].getD o 0
noncomputable def lk_ef (h : mm_H) (m i H a : Nat) (s f : Int32) (g : Nat → mm_V) : Nat → mm_F
  | 0 => (nI (H + 1), s, f, lk_up g (6 + H) (1, -1, 0, 0, -1))
  | 1 => (nI (H + 1), s, f, lk_up g (6 + H) (2, -1, 1, 0, -1))
  | 2 => (nI (H + 1), s, f, lk_up g (6 + H) (lk_wo (g a) (nI a)))
  | 3 => (nI (H - 1), s, f, lk_st g a (g (5 + H)))
  | 4 => (nI (H + 1), s, f, lk_up g (6 + H) (g (5 + H)))
  | 5 => (nI (H - 1), s, f, g)
  | 6 => (nI (H - 1), s, f, lk_up g (4 + H) (1, -1, 0, (g (4 + H)).2.2.2.1 ||| (g (5 + H)).2.2.2.1, -1))
  | 7 => (nI (H + 1), nI i, 0, lk_up (fun v => mm_dr (g v)) (6 + H) (4, nI a, 0, 0, -1))
  | 8 => (nI H, -1, 0, fun v => if (g (5 + H)).1 = 4 then lk_rf (g v) else mm_dr (g v))
  | 9 => (nI H, s, f, lk_up g (5 + H) (lk_sv (mm_a h 83 a) (mm_b (¬ mm_a h 86 a = 0 ∨ lk_un f a (g (5 + H)))) (mm_a h 84 a)))
  | 10 => (nI (H - 2), s, if (g (4 + H)).1 = 4 then f ||| (1 : Int32) <<< (nI a &&& 31) else f, g)
  | 11 => if mm_a h 93 (4 * a + 3) = -2 then (nI (H - lk_po h m 11 a), s, f, g) else (nI (H - lk_po h m 11 a + 1), s, f, lk_up g (6 + (H - lk_po h m 11 a)) (lk_sv (mm_a h 93 (4 * a + 3)) (mm_a h 96 (4 * a + 3)) (mm_a h 94 (4 * a + 3))))
  | 12 => (nI H, s, f, lk_up g (5 + H) (3, nI a, (g (5 + H)).2.2.1, (g (5 + H)).2.2.2.1, -1))
  | 13 => (nI H, s, f, g)
  | 14 => (nI (H - 1), s, f, g)
  | 15 => (nI (H - 1), s, f, g)
  | 16 => (nI (H - lk_po h m 16 a), s, f, g)
  | _ => (nI (H - 1), s, f, g)
/-- the slots of a frame of height H, ordered; and as they must be -/
def lk_P (up : Nat → Int) (H : Nat) (s f : Int32) (g : Nat → mm_V) (s' f' : Int32) (g' : Nat → mm_V) : Prop := (s' = -1 ∨ (s = s' ∧ f &&& f' = f')) ∧ ∀ v, v < 6 + H → mm_vle up (g v) (g' v)
def lk_ok (na : Int32 → Int32) (H : Nat) (s f : Int32) (g : Nat → mm_V) : Prop := H ≤ 4 ∧ (s = -1 → f = 0) ∧ (0 ≤ f.toInt ∧ f.toInt < 4096) ∧ (-1 ≤ s.toInt ∧ s.toInt ≤ 19) ∧ ∀ v, v < 6 + H → mm_vr (g v) ∧ ((g v).1 = 4 → ¬ s = -1 ∧ (g v).2.1 = na s) ∧ (v < 6 → (g v).2.2.2.2 = -1)
theorem lk_ok_of {na : Int32 → Int32} {H : Nat} {s f : Int32} {g : Nat → mm_V} (hH : H ≤ 4) (o : mm_fok na (nI H, s, f, g)) : lk_ok na H s f g := by
  have t : (nI H).toInt = (H : Int) := mm_nt (by omega)
  obtain ⟨a1, a2, a3, a4, a5⟩ := o (by show 0 ≤ (nI H).toInt; omega)
  exact ⟨hH, a2, a3, a4, fun v hv => a5 v (by show (v : Int) < 6 + (nI H).toInt; omega)⟩
theorem lk_ok_to {na : Int32 → Int32} {H : Nat} {s f : Int32} {g : Nat → mm_V} (o : lk_ok na H s f g) : mm_fok na (nI H, s, f, g) := by
  intro _
  obtain ⟨a1, a2, a3, a4, a5⟩ := o
  have t : (nI H).toInt = (H : Int) := mm_nt (by omega)
  refine ⟨by show (nI H).toInt ≤ 4; omega, a2, a3, a4, fun v hv => a5 v ?_⟩
  have hv' : (v : Int) < 6 + (nI H).toInt := hv
  omega
theorem lk_P_to {up : Nat → Int} {H : Nat} {s f s' f' : Int32} {g g' : Nat → mm_V} (hH : H ≤ 4) (p : lk_P up H s f g s' f' g') : mm_fle up (nI H, s, f, g) (nI H, s', f', g') := by
  have t : (nI H).toInt = (H : Int) := mm_nt (by omega)
  refine Or.inr (Or.inr ⟨rfl, by show 0 ≤ (nI H).toInt; omega, p.1, fun v hv => p.2 v ?_⟩)
  have hv' : (v : Int) < 6 + (nI H).toInt := hv
  omega
theorem lk_P_of {up : Nat → Int} {H : Nat} {s f s' f' : Int32} {g g' : Nat → mm_V} (hH : H ≤ 4) (p : mm_fle up (nI H, s, f, g) (nI H, s', f', g')) : lk_P up H s f g s' f' g' := by
  have t : (nI H).toInt = (H : Int) := mm_nt (by omega)
  rcases p with p | p | ⟨_, _, p3, p4⟩
  · exact absurd p (mm_not_m1 (by show 0 ≤ (nI H).toInt; omega))
  · exact absurd p (mm_not_m2 (by show 0 ≤ (nI H).toInt; omega))
  · exact ⟨p3, fun v hv => p4 v (by show (v : Int) < 6 + (nI H).toInt; omega)⟩
theorem lk_P_push {up : Nat → Int} {H : Nat} {s f s' f' : Int32} {g g' : Nat → mm_V} {x y : mm_V} (p : lk_P up H s f g s' f' g') (h : mm_vle up x y) : lk_P up (H + 1) s f (lk_up g (6 + H) x) s' f' (lk_up g' (6 + H) y) := by
  refine ⟨p.1, fun v hv => ?_⟩
  by_cases q : v = 6 + H
  · rw [q, lk_up_t, lk_up_t]; exact h
  · rw [lk_up_f q, lk_up_f q]; exact p.2 v (by omega)
theorem lk_P_pop {up : Nat → Int} {H K : Nat} {s f s' f' : Int32} {g g' : Nat → mm_V} (p : lk_P up H s f g s' f' g') (h : K ≤ H) : lk_P up K s f g s' f' g' := ⟨p.1, fun v hv => p.2 v (by omega)⟩
theorem lk_ok_push {na : Int32 → Int32} {H : Nat} {s f : Int32} {g : Nat → mm_V} {x : mm_V} (o : lk_ok na H s f g) (hH : H ≤ 3) (hx : mm_vr x) (h4 : x.1 = 4 → ¬ s = -1 ∧ x.2.1 = na s) : lk_ok na (H + 1) s f (lk_up g (6 + H) x) := by
  obtain ⟨a1, a2, a3, a4, a5⟩ := o
  refine ⟨by omega, a2, a3, a4, fun v hv => ?_⟩
  by_cases q : v = 6 + H
  · rw [q, lk_up_t]; exact ⟨hx, h4, fun z => by omega⟩
  · rw [lk_up_f q]; exact a5 v (by omega)
theorem lk_ok_pop {na : Int32 → Int32} {H K : Nat} {s f : Int32} {g : Nat → mm_V} (o : lk_ok na H s f g) (h : K ≤ H) : lk_ok na K s f g := by
  obtain ⟨a1, a2, a3, a4, a5⟩ := o
  exact ⟨by omega, a2, a3, a4, fun v hv => a5 v (by omega)⟩
/-- what fields and methods say is in range -/
def lk_SV (h : mm_H) : Prop := (∀ a, a < 12 → (-1 ≤ (mm_a h 83 a).toInt ∧ (mm_a h 83 a).toInt ≤ 5) ∧ (mm_a h 86 a = 0 ∨ mm_a h 86 a = 1) ∧ (0 ≤ (mm_a h 84 a).toInt ∧ (mm_a h 84 a).toInt ≤ 15)) ∧ (∀ p, p < 40 → (-2 ≤ (mm_a h 93 p).toInt ∧ (mm_a h 93 p).toInt ≤ 5) ∧ (mm_a h 96 p = 0 ∨ mm_a h 96 p = 1) ∧ (0 ≤ (mm_a h 94 p).toInt ∧ (mm_a h 94 p).toInt ≤ 15))
/-- an instruction's argument -/
def lk_AV (h : mm_H) (m i : Nat) : Prop := lk_o h m i < 18 ∧ ((lk_o h m i = 2 ∨ lk_o h m i = 3) → lk_a h m i ≤ 5) ∧ ((lk_o h m i = 7 ∨ lk_o h m i = 12) → lk_a h m i ≤ 5 ∧ mm_a h 98 (20 * m + i) = nI (lk_a h m i)) ∧ ((lk_o h m i = 9 ∨ lk_o h m i = 10) → lk_a h m i < 12) ∧ (lk_o h m i = 11 → lk_a h m i < 10)
def lk_na (h : mm_H) (m : Nat) : Int32 → Int32 := fun s => mm_a h 98 (20 * m + s.toInt.toNat)
theorem lk_c1 : mm_vr (1, -1, 0, 0, -1) := by unfold mm_vr; decide
theorem lk_c2 : mm_vr (2, -1, 1, 0, -1) := by unfold mm_vr; decide
theorem lk_ne {a b : Int32} (h : ¬ a.toInt = b.toInt) : ¬ a = b := fun e => h (by rw [e])
theorem lk_nn {a : Int32} {n : Int} (h : ¬ a = Int32.ofInt n) (hn : (Int32.ofInt n).toInt = n) : ¬ a.toInt = n := fun e => h (Int32.toInt_inj.mp (e.trans hn.symm))
theorem lk_sv_vr {s n w : Int32} (hs : -1 ≤ s.toInt ∧ s.toInt ≤ 5) (hn : n = 0 ∨ n = 1) (hw : 0 ≤ w.toInt ∧ w.toInt ≤ 15) : mm_vr (lk_sv s n w) ∧ ¬ (lk_sv s n w).1 = 4 := by
  unfold lk_sv
  split
  · exact ⟨⟨(by decide : 0 ≤ (1 : Int32).toInt ∧ (1 : Int32).toInt ≤ 4), fun _ => rfl, fun q => absurd q (by decide : ¬ 3 ≤ (1 : Int32).toInt), Or.inl rfl, hw, (by decide : -1 ≤ (-1 : Int32).toInt ∧ (-1 : Int32).toInt ≤ 5)⟩, (by decide : ¬ (1 : Int32) = 4)⟩
  · rename_i q
    have q' : ¬ s.toInt = -1 := lk_nn (n := -1) q (by decide)
    exact ⟨⟨(by decide : 0 ≤ (3 : Int32).toInt ∧ (3 : Int32).toInt ≤ 4), fun z => absurd z (by decide : ¬ (3 : Int32).toInt < 3), fun _ => ⟨by show 0 ≤ s.toInt; omega, hs.2⟩, hn, hw, (by decide : -1 ≤ (-1 : Int32).toInt ∧ (-1 : Int32).toInt ≤ 5)⟩, (by decide : ¬ (3 : Int32) = 4)⟩
theorem lk_sv_le {up : Nat → Int} {s n n' w : Int32} (h : n = n' ∨ (n = 0 ∧ n' = 1)) : mm_vle up (lk_sv s n w) (lk_sv s n' w) := by
  unfold lk_sv
  split
  · exact mm_vle_refl
  · exact ⟨mm_kle_refl, h, Int32.or_self, Or.inr rfl⟩
theorem lk_wo_le {up : Nat → Int} {x y : mm_V} {o : Int32} (h : mm_vle up x y) : mm_vle up (lk_wo x o) (lk_wo y o) := ⟨h.1, h.2.1, h.2.2.1, Or.inr rfl⟩
theorem lk_wo_vr {x : mm_V} {o : Int32} (h : mm_vr x) (ho : -1 ≤ o.toInt ∧ o.toInt ≤ 5) : mm_vr (lk_wo x o) := ⟨h.1, h.2.1, h.2.2.1, h.2.2.2.1, h.2.2.2.2.1, ho⟩
/-- RAW is below RAW and ANY alone; nothing else is below RAW -/
theorem lk_raw_up {up : Nat → Int} {x y : mm_V} (h : mm_vle up x y) (h4 : x.1 = 4) : y.1 = 0 ∨ (y.1 = 4 ∧ x.2.1 = y.2.1) := by
  rcases h.1 with a | ⟨a, b⟩ | ⟨a, _⟩ | ⟨a, _⟩
  · exact Or.inl a
  · exact Or.inr ⟨a.symm.trans h4, b⟩
  · exact absurd (a.symm.trans h4) (by decide)
  · exact absurd (a.symm.trans h4) (by decide)
theorem lk_raw_dn {up : Nat → Int} {x y : mm_V} (h : mm_vle up x y) (h4 : y.1 = 4) : x.1 = 4 := by
  rcases h.1 with a | ⟨a, b⟩ | ⟨_, a⟩ | ⟨_, a, _⟩
  · exact absurd (a.symm.trans h4) (by decide)
  · exact a.trans h4
  · exact absurd (a.symm.trans h4) (by decide)
  · exact absurd (a.symm.trans h4) (by decide)
theorem lk_dr_t {x : mm_V} (h : x.1 = 4) : mm_dr x = (0, -1, x.2.2) := if_pos h
theorem lk_dr_f {x : mm_V} (h : ¬ x.1 = 4) : mm_dr x = x := if_neg h
theorem lk_rf_t {x : mm_V} (h : x.1 = 4) : lk_rf x = (3, x.2) := if_pos h
theorem lk_rf_f {x : mm_V} (h : ¬ x.1 = 4) : lk_rf x = x := if_neg h
theorem lk_dr_le {up : Nat → Int} {x y : mm_V} (h : mm_vle up x y) : mm_vle up (mm_dr x) (mm_dr y) := mm_dr_least mm_dr_n4 (mm_vle_trans h mm_dr_up)
theorem lk_rf_le {up : Nat → Int} {x y : mm_V} (h : mm_vle up x y) : mm_vle up (lk_rf x) (lk_rf y) := by
  by_cases q : x.1 = 4
  · rw [lk_rf_t q]
    rcases lk_raw_up h q with a | ⟨a, b⟩
    · rw [lk_rf_f (by rw [a]; decide)]; exact ⟨Or.inl a, h.2⟩
    · rw [lk_rf_t a]; exact ⟨Or.inr (Or.inl ⟨rfl, b⟩), h.2⟩
  · rw [lk_rf_f q, lk_rf_f (fun z => q (lk_raw_dn h z))]; exact h
theorem lk_rd_le {up : Nat → Int} {x y : mm_V} (h : mm_vle up x y) : mm_vle up (lk_rf x) (mm_dr y) := by
  by_cases q : x.1 = 4
  · rw [lk_rf_t q]
    rcases lk_raw_up h q with a | ⟨a, b⟩
    · rw [lk_dr_f (by rw [a]; decide)]; exact ⟨Or.inl a, h.2⟩
    · rw [lk_dr_t a]; exact ⟨Or.inl rfl, h.2⟩
  · rw [lk_rf_f q]; exact mm_vle_trans h mm_dr_up
theorem lk_rf_vr {x : mm_V} (h : mm_vr x) : mm_vr (lk_rf x) ∧ ¬ (lk_rf x).1 = 4 ∧ (lk_rf x).2.2.2.2 = x.2.2.2.2 := by
  by_cases q : x.1 = 4
  · rw [lk_rf_t q]
    have t4 : (4 : Int32).toInt = 4 := by decide
    exact ⟨⟨(by decide : 0 ≤ (3 : Int32).toInt ∧ (3 : Int32).toInt ≤ 4), fun z => absurd z (by decide : ¬ (3 : Int32).toInt < 3), fun _ => h.2.2.1 (by rw [q, t4]; omega), h.2.2.2⟩, (by decide : ¬ (3 : Int32) = 4), rfl⟩
  · rw [lk_rf_f q]; exact ⟨h, q, rfl⟩
theorem lk_bt_le {f f' : Int32} {a : Nat} (h : f &&& f' = f') (q : lk_bt f a) : lk_bt f' a := by
  unfold lk_bt at q ⊢
  rw [← h, Int32.shiftRight_and, Int32.and_comm (f >>> _), Int32.and_assoc, q, Int32.and_zero]
theorem lk_bits1 {f f' b : Int32} (h : f &&& f' = f') : (f ||| b) &&& (f' ||| b) = f' ||| b := by
  have h' := congrArg Int32.toBitVec h
  refine Int32.toBitVec_inj.1 ?_
  simp only [Int32.toBitVec_and, Int32.toBitVec_or] at h' ⊢
  apply BitVec.eq_of_getLsbD_eq
  intro i hi
  have hi' := congrArg (fun z => z.getLsbD i) h'
  simp only [BitVec.getLsbD_and, BitVec.getLsbD_or] at hi' ⊢
  revert hi'
  cases f.toBitVec.getLsbD i <;> cases f'.toBitVec.getLsbD i <;> cases b.toBitVec.getLsbD i <;> decide
theorem lk_bits2 {f f' b : Int32} (h : f &&& f' = f') : (f ||| b) &&& f' = f' := by
  have h' := congrArg Int32.toBitVec h
  refine Int32.toBitVec_inj.1 ?_
  simp only [Int32.toBitVec_and, Int32.toBitVec_or] at h' ⊢
  apply BitVec.eq_of_getLsbD_eq
  intro i hi
  have hi' := congrArg (fun z => z.getLsbD i) h'
  simp only [BitVec.getLsbD_and, BitVec.getLsbD_or] at hi' ⊢
  revert hi'
  cases f.toBitVec.getLsbD i <;> cases f'.toBitVec.getLsbD i <;> cases b.toBitVec.getLsbD i <;> decide
theorem lk_1sh : ∀ a, a < 12 → (1 : Int32) <<< (nI a &&& 31) = nI (2 ^ a) := by decide
theorem lk_or12 {f : Int32} {a : Nat} (hf : 0 ≤ f.toInt ∧ f.toInt < 4096) (ha : a < 12) : 0 ≤ (f ||| (1 : Int32) <<< (nI a &&& 31)).toInt ∧ (f ||| (1 : Int32) <<< (nI a &&& 31)).toInt < 4096 := by
  obtain ⟨i, hi, rfl⟩ := mm_of (N := 4096) (x := f) (by omega)
  rw [lk_1sh a ha, mm_nI_or]
  have h2 : 2 ^ a < 2 ^ 12 := Nat.pow_lt_pow_right (by omega) ha
  have := Nat.or_lt_two_pow (n := 12) hi h2
  rw [mm_nt (by omega)]
  omega
theorem lk_o_cases {o : Nat} (h : o < 18) : o = 0 ∨ o = 1 ∨ o = 2 ∨ o = 3 ∨ o = 4 ∨ o = 5 ∨ o = 6 ∨ o = 7 ∨ o = 8 ∨ o = 9 ∨ o = 10 ∨ o = 11 ∨ o = 12 ∨ o = 13 ∨ o = 14 ∨ o = 15 ∨ o = 16 ∨ o = 17 := by omega
end
section
/-! what comes out is as it must be, and more comes out of more -/
theorem lk_P_put {up : Nat → Int} {H j : Nat} {s f s' f' : Int32} {g g' : Nat → mm_V} {x y : mm_V} (p : lk_P up H s f g s' f' g') (h : mm_vle up x y) : lk_P up H s f (lk_up g j x) s' f' (lk_up g' j y) := by
  refine ⟨p.1, fun v hv => ?_⟩
  by_cases q : v = j
  · rw [q, lk_up_t, lk_up_t]; exact h
  · rw [lk_up_f q, lk_up_f q]; exact p.2 v hv
theorem lk_ok_put {na : Int32 → Int32} {H j : Nat} {s f : Int32} {g : Nat → mm_V} {x : mm_V} (o : lk_ok na H s f g) (hj : 6 ≤ j) (hx : mm_vr x) (h4 : x.1 = 4 → ¬ s = -1 ∧ x.2.1 = na s) : lk_ok na H s f (lk_up g j x) := by
  obtain ⟨a1, a2, a3, a4, a5⟩ := o
  refine ⟨a1, a2, a3, a4, fun v hv => ?_⟩
  by_cases q : v = j
  · rw [q, lk_up_t]; exact ⟨hx, h4, fun z => by omega⟩
  · rw [lk_up_f q]; exact a5 v hv
theorem lk_un_le {up : Nat → Int} {na : Int32 → Int32} {H a : Nat} {s f s' f' : Int32} {g g' : Nat → mm_V} (o2 : lk_ok na H s' f' g') (p : lk_P up H s f g s' f' g') {v : Nat} (hv : v < 6 + H) (h : lk_un f a (g v)) : lk_un f' a (g' v) := by
  have pv := p.2 v hv
  have d3 : ¬ (0 : Int32) = 2 := by decide
  rcases h with h | h | ⟨h, hb⟩
  · rcases pv.1 with q | ⟨q, _⟩ | ⟨q, _⟩ | ⟨q, _⟩
    · exact Or.inl q
    · exact Or.inl (q.symm.trans h)
    · exact absurd (h.symm.trans q) (by decide)
    · exact absurd (h.symm.trans q) (by decide)
  · rcases pv.1 with q | ⟨q, _⟩ | ⟨q, _⟩ | ⟨q, _⟩
    · exact Or.inl q
    · exact Or.inr (Or.inl (q.symm.trans h))
    · exact absurd (h.symm.trans q) (by decide)
    · exact absurd (h.symm.trans q) (by decide)
  · rcases lk_raw_up pv h with q | ⟨q, _⟩
    · exact Or.inl q
    · refine Or.inr (Or.inr ⟨q, ?_⟩)
      rcases p.1 with z | z
      · exact absurd z ((o2.2.2.2.2 v hv).2.1 q).1
      · exact lk_bt_le z.2 hb
theorem lk_b_le {P R : Prop} (h : P → R) : mm_b P = mm_b R ∨ (mm_b P = 0 ∧ mm_b R = 1) := by
  by_cases p : P
  · exact Or.inl (by rw [mm_b_t p, mm_b_t (h p)])
  · by_cases r : R
    · exact Or.inr ⟨mm_b_f p, mm_b_t r⟩
    · exact Or.inl (by rw [mm_b_f p, mm_b_f r])
theorem lk_ef_mono {up : Nat → Int} {na : Int32 → Int32} {h : mm_H} {m i H a o : Nat} {s f s' f' : Int32} {g g' : Nat → mm_V} (o1 : lk_ok na H s f g) (o2 : lk_ok na H s' f' g') (p : lk_P up H s f g s' f' g') (ho : o < 18) (ha : (o = 2 ∨ o = 3) → a ≤ 5) (hpo : lk_po h m o a ≤ H) (hpu : H - lk_po h m o a + lk_pu h o a ≤ 4) : mm_fle up (lk_ef h m i H a s f g o) (lk_ef h m i H a s' f' g' o) := by
  have hH := o1.1
  rcases lk_o_cases ho with rfl | rfl | rfl | rfl | rfl | rfl | rfl | rfl | rfl | rfl | rfl | rfl | rfl | rfl | rfl | rfl | rfl | rfl
  · have e : H - 0 + 1 ≤ 4 := hpu
    exact lk_P_to (by omega) (lk_P_push p mm_vle_refl)
  · have e : H - 0 + 1 ≤ 4 := hpu
    exact lk_P_to (by omega) (lk_P_push p mm_vle_refl)
  · have e : H - 0 + 1 ≤ 4 := hpu
    have := ha (Or.inl rfl)
    exact lk_P_to (by omega) (lk_P_push p (lk_wo_le (p.2 a (by omega))))
  · have e : 1 ≤ H := hpo
    refine lk_P_to (by omega) ⟨p.1, fun v hv => ?_⟩
    unfold lk_st
    by_cases q : v = a
    · rw [if_pos q, if_pos q]; exact lk_wo_le (p.2 _ (by omega))
    · rw [if_neg q, if_neg q]
      have pv := p.2 v (by omega)
      by_cases q1 : 6 ≤ v ∧ (g v).2.2.2.2 = nI a
      · rw [if_pos q1]
        by_cases q2 : 6 ≤ v ∧ (g' v).2.2.2.2 = nI a
        · rw [if_pos q2]; exact lk_wo_le pv
        · rw [if_neg q2]
          refine ⟨pv.1, pv.2.1, pv.2.2.1, ?_⟩
          rcases pv.2.2.2 with z | z
          · exact Or.inl z
          · exact absurd ⟨q1.1, z.symm.trans q1.2⟩ q2
      · rw [if_neg q1]
        by_cases q2 : 6 ≤ v ∧ (g' v).2.2.2.2 = nI a
        · rw [if_pos q2]; exact ⟨pv.1, pv.2.1, pv.2.2.1, Or.inl rfl⟩
        · rw [if_neg q2]; exact pv
  · have e : 1 ≤ H := hpo
    have e2 : H - 1 + 2 ≤ 4 := hpu
    exact lk_P_to (by omega) (lk_P_push p (p.2 _ (by omega)))
  · exact lk_P_to (by omega) (lk_P_pop p (by omega))
  · have e : 2 ≤ H := hpo
    refine lk_P_to (by omega) (lk_P_put (lk_P_pop p (by omega)) ⟨mm_kle_refl, Or.inl rfl, ?_, Or.inr rfl⟩)
    have p1 := (p.2 (4 + H) (by omega)).2.2.1
    have p2 := (p.2 (5 + H) (by omega)).2.2.1
    show ((g (4 + H)).2.2.2.1 ||| (g (5 + H)).2.2.2.1) ||| ((g' (4 + H)).2.2.2.1 ||| (g' (5 + H)).2.2.2.1) = ((g' (4 + H)).2.2.2.1 ||| (g' (5 + H)).2.2.2.1)
    rw [Int32.or_assoc, Int32.or_comm (g' (4 + H)).2.2.2.1, ← Int32.or_assoc (g (5 + H)).2.2.2.1, p2, Int32.or_comm (g' (5 + H)).2.2.2.1, ← Int32.or_assoc, p1]
  · have e : H - 0 + 1 ≤ 4 := hpu
    refine lk_P_to (by omega) (lk_P_push ⟨Or.inr ⟨rfl, Int32.and_self⟩, fun v hv => lk_dr_le (p.2 v hv)⟩ mm_vle_refl)
  · have e : 1 ≤ H := hpo
    refine lk_P_to (by omega) ⟨Or.inl rfl, fun v hv => ?_⟩
    have pv := p.2 v hv
    have pt := p.2 (5 + H) (by omega)
    by_cases q : (g (5 + H)).1 = 4
    · by_cases q2 : (g' (5 + H)).1 = 4
      · show mm_vle up (if (g (5 + H)).1 = 4 then lk_rf (g v) else mm_dr (g v)) (if (g' (5 + H)).1 = 4 then lk_rf (g' v) else mm_dr (g' v))
        rw [if_pos q, if_pos q2]; exact lk_rf_le pv
      · show mm_vle up (if (g (5 + H)).1 = 4 then lk_rf (g v) else mm_dr (g v)) (if (g' (5 + H)).1 = 4 then lk_rf (g' v) else mm_dr (g' v))
        rw [if_pos q, if_neg q2]; exact lk_rd_le pv
    · show mm_vle up (if (g (5 + H)).1 = 4 then lk_rf (g v) else mm_dr (g v)) (if (g' (5 + H)).1 = 4 then lk_rf (g' v) else mm_dr (g' v))
      rw [if_neg q, if_neg (fun z => q (lk_raw_dn pt z))]; exact lk_dr_le pv
  · have e : 1 ≤ H := hpo
    refine lk_P_to (by omega) (lk_P_put p (lk_sv_le (lk_b_le (fun z => ?_))))
    rcases z with z | z
    · exact Or.inl z
    · exact Or.inr (lk_un_le o2 p (by omega) z)
  · have e : 2 ≤ H := hpo
    refine lk_P_to (by omega) ⟨?_, fun v hv => p.2 v (by omega)⟩
    have pv := p.2 (4 + H) (by omega)
    rcases p.1 with z | ⟨z, z2⟩
    · exact Or.inl z
    · refine Or.inr ⟨z, ?_⟩
      by_cases q : (g (4 + H)).1 = 4
      · rw [if_pos q]
        by_cases q2 : (g' (4 + H)).1 = 4
        · rw [if_pos q2]; exact lk_bits1 z2
        · rw [if_neg q2]; exact lk_bits2 z2
      · rw [if_neg q, if_neg (fun y => q (lk_raw_dn pv y))]; exact z2
  · show mm_fle up (if mm_a h 93 (4 * a + 3) = -2 then (nI (H - lk_po h m 11 a), s, f, g) else (nI (H - lk_po h m 11 a + 1), s, f, lk_up g (6 + (H - lk_po h m 11 a)) (lk_sv (mm_a h 93 (4 * a + 3)) (mm_a h 96 (4 * a + 3)) (mm_a h 94 (4 * a + 3))))) (if mm_a h 93 (4 * a + 3) = -2 then (nI (H - lk_po h m 11 a), s', f', g') else (nI (H - lk_po h m 11 a + 1), s', f', lk_up g' (6 + (H - lk_po h m 11 a)) (lk_sv (mm_a h 93 (4 * a + 3)) (mm_a h 96 (4 * a + 3)) (mm_a h 94 (4 * a + 3)))))
    by_cases q : mm_a h 93 (4 * a + 3) = -2
    · rw [if_pos q, if_pos q]; exact lk_P_to (by omega) (lk_P_pop p (by omega))
    · rw [if_neg q, if_neg q]
      have e : lk_pu h 11 a = 1 := if_neg q
      exact lk_P_to (by omega) (lk_P_push (lk_P_pop p (by omega)) mm_vle_refl)
  · have e : 1 ≤ H := hpo
    have pv := p.2 (5 + H) (by omega)
    exact lk_P_to (by omega) (lk_P_put p ⟨mm_kle_refl, pv.2.1, pv.2.2.1, Or.inr rfl⟩)
  · exact lk_P_to (by omega) p
  · exact lk_P_to (by omega) (lk_P_pop p (by omega))
  · exact lk_P_to (by omega) (lk_P_pop p (by omega))
  · exact lk_P_to (by omega) (lk_P_pop p (by omega))
  · exact lk_P_to (by omega) (lk_P_pop p (by omega))
theorem lk_n5 {a : Nat} (h : a ≤ 5) : -1 ≤ (nI a).toInt ∧ (nI a).toInt ≤ 5 := by rw [mm_nt (by omega)]; omega
theorem lk_ef_ok {h : mm_H} {m i H a o : Nat} {s f : Int32} {g : Nat → mm_V} (S : lk_SV h) (hi : i < 20) (o1 : lk_ok (lk_na h m) H s f g) (ho : o < 18) (ha : (o = 2 ∨ o = 3) → a ≤ 5) (ha7 : (o = 7 ∨ o = 12) → a ≤ 5 ∧ mm_a h 98 (20 * m + i) = nI a) (ha9 : (o = 9 ∨ o = 10) → a < 12) (ha11 : o = 11 → a < 10) (hpo : lk_po h m o a ≤ H) (hpu : H - lk_po h m o a + lk_pu h o a ≤ 4) : mm_fok (lk_na h m) (lk_ef h m i H a s f g o) := by
  have hH := o1.1
  have V := o1.2.2.2.2
  have w0 : 0 ≤ (0 : Int32).toInt ∧ (0 : Int32).toInt ≤ 15 := by decide
  have mo : -1 ≤ (-1 : Int32).toInt ∧ (-1 : Int32).toInt ≤ 5 := by decide
  have k3 : (0 ≤ (3 : Int32).toInt ∧ (3 : Int32).toInt ≤ 4) := by decide
  rcases lk_o_cases ho with rfl | rfl | rfl | rfl | rfl | rfl | rfl | rfl | rfl | rfl | rfl | rfl | rfl | rfl | rfl | rfl | rfl | rfl
  · have e : H - 0 + 1 ≤ 4 := hpu
    exact lk_ok_to (lk_ok_push o1 (by omega) lk_c1 (fun z => absurd z (by decide)))
  · have e : H - 0 + 1 ≤ 4 := hpu
    exact lk_ok_to (lk_ok_push o1 (by omega) lk_c2 (fun z => absurd z (by decide)))
  · have e : H - 0 + 1 ≤ 4 := hpu
    have := ha (Or.inl rfl)
    exact lk_ok_to (lk_ok_push o1 (by omega) (lk_wo_vr (V a (by omega)).1 (lk_n5 this)) (V a (by omega)).2.1)
  · have e : 1 ≤ H := hpo
    have a5 := ha (Or.inr rfl)
    refine lk_ok_to ⟨by omega, o1.2.1, o1.2.2.1, o1.2.2.2.1, fun v hv => ?_⟩
    unfold lk_st
    by_cases q : v = a
    · rw [if_pos q]
      have vt := V (5 + H) (by omega)
      exact ⟨lk_wo_vr vt.1 mo, vt.2.1, fun _ => rfl⟩
    · rw [if_neg q]
      have vv := V v (by omega)
      split
      · exact ⟨lk_wo_vr vv.1 mo, vv.2.1, fun _ => rfl⟩
      · exact vv
  · have e : 1 ≤ H := hpo
    have e2 : H - 1 + 2 ≤ 4 := hpu
    have vt := V (5 + H) (by omega)
    exact lk_ok_to (lk_ok_push o1 (by omega) vt.1 vt.2.1)
  · exact lk_ok_to (lk_ok_pop o1 (by omega))
  · have e : 2 ≤ H := hpo
    refine lk_ok_to (lk_ok_put (lk_ok_pop o1 (by omega)) (by omega) ⟨(by decide : 0 ≤ (1 : Int32).toInt ∧ (1 : Int32).toInt ≤ 4), fun _ => rfl, fun q => absurd q (by decide : ¬ 3 ≤ (1 : Int32).toInt), Or.inl rfl, ?_, mo⟩ (fun z => absurd z (by decide : ¬ (1 : Int32) = 4)))
    exact mm_or15 (V (4 + H) (by omega)).1.2.2.2.2.1 (V (5 + H) (by omega)).1.2.2.2.2.1
  · have e : H - 0 + 1 ≤ 4 := hpu
    obtain ⟨b1, b2⟩ := ha7 (Or.inl rfl)
    have ei : (nI i).toInt = (i : Int) := mm_nt (by omega)
    refine lk_ok_to (lk_ok_push ⟨hH, fun _ => rfl, (by decide : 0 ≤ (0 : Int32).toInt ∧ (0 : Int32).toInt < 4096), by omega, fun v hv => ?_⟩ (by omega) ⟨(by decide : 0 ≤ (4 : Int32).toInt ∧ (4 : Int32).toInt ≤ 4), fun z => absurd z (by decide : ¬ (4 : Int32).toInt < 3), fun _ => ?_, Or.inl rfl, w0, mo⟩ (fun _ => ⟨mm_not_m1 (by omega), ?_⟩))
    · have vv := V v hv
      exact ⟨mm_dr_vr vv.1, fun z => absurd z mm_dr_n4, fun z => by rw [mm_dr_o]; exact vv.2.2 z⟩
    · show 0 ≤ (nI a).toInt ∧ (nI a).toInt ≤ 5
      rw [mm_nt (by omega)]; omega
    · show nI a = mm_a h 98 (20 * m + (nI i).toInt.toNat)
      rw [ei]
      exact b2.symm
  · have e : 1 ≤ H := hpo
    refine lk_ok_to ⟨hH, fun _ => rfl, (by decide : 0 ≤ (0 : Int32).toInt ∧ (0 : Int32).toInt < 4096), (by decide : -1 ≤ (-1 : Int32).toInt ∧ (-1 : Int32).toInt ≤ 19), fun v hv => ?_⟩
    have vv := V v hv
    by_cases q : (g (5 + H)).1 = 4
    · have eq : (if (g (5 + H)).1 = 4 then lk_rf (g v) else mm_dr (g v)) = lk_rf (g v) := if_pos q
      have r := lk_rf_vr vv.1
      refine ⟨?_, fun z => ?_, fun z => ?_⟩
      · show mm_vr (if (g (5 + H)).1 = 4 then lk_rf (g v) else mm_dr (g v))
        rw [eq]; exact r.1
      · have z' : (if (g (5 + H)).1 = 4 then lk_rf (g v) else mm_dr (g v)).1 = 4 := z
        rw [eq] at z'
        exact absurd z' r.2.1
      · show (if (g (5 + H)).1 = 4 then lk_rf (g v) else mm_dr (g v)).2.2.2.2 = -1
        rw [eq, r.2.2]; exact vv.2.2 z
    · have eq : (if (g (5 + H)).1 = 4 then lk_rf (g v) else mm_dr (g v)) = mm_dr (g v) := if_neg q
      refine ⟨?_, fun z => ?_, fun z => ?_⟩
      · show mm_vr (if (g (5 + H)).1 = 4 then lk_rf (g v) else mm_dr (g v))
        rw [eq]; exact mm_dr_vr vv.1
      · have z' : (if (g (5 + H)).1 = 4 then lk_rf (g v) else mm_dr (g v)).1 = 4 := z
        rw [eq] at z'
        exact absurd z' mm_dr_n4
      · show (if (g (5 + H)).1 = 4 then lk_rf (g v) else mm_dr (g v)).2.2.2.2 = -1
        rw [eq, mm_dr_o]; exact vv.2.2 z
  · have e : 1 ≤ H := hpo
    have f9 := S.1 a (ha9 (Or.inl rfl))
    have sv := lk_sv_vr f9.1 (mm_b01 (¬ mm_a h 86 a = 0 ∨ lk_un f a (g (5 + H)))) f9.2.2
    exact lk_ok_to (lk_ok_put o1 (by omega) sv.1 (fun z => absurd z sv.2))
  · have e : 2 ≤ H := hpo
    have a12 := ha9 (Or.inr rfl)
    refine lk_ok_to ⟨by omega, fun z => ?_, ?_, o1.2.2.2.1, fun v hv => V v (by omega)⟩
    · have n4 : ¬ (g (4 + H)).1 = 4 := fun y => ((V (4 + H) (by omega)).2.1 y).1 z
      rw [if_neg n4]; exact o1.2.1 z
    · split
      · exact lk_or12 o1.2.2.1 a12
      · exact o1.2.2.1
  · show mm_fok (lk_na h m) (if mm_a h 93 (4 * a + 3) = -2 then (nI (H - lk_po h m 11 a), s, f, g) else (nI (H - lk_po h m 11 a + 1), s, f, lk_up g (6 + (H - lk_po h m 11 a)) (lk_sv (mm_a h 93 (4 * a + 3)) (mm_a h 96 (4 * a + 3)) (mm_a h 94 (4 * a + 3)))))
    by_cases q : mm_a h 93 (4 * a + 3) = -2
    · rw [if_pos q]; exact lk_ok_to (lk_ok_pop o1 (by omega))
    · rw [if_neg q]
      have e : lk_pu h 11 a = 1 := if_neg q
      have f9 := S.2 (4 * a + 3) (by have := ha11 rfl; omega)
      have q' : ¬ (mm_a h 93 (4 * a + 3)).toInt = -2 := lk_nn (n := -2) q (by decide)
      have sv := lk_sv_vr (s := mm_a h 93 (4 * a + 3)) (by omega) f9.2.1 f9.2.2
      exact lk_ok_to (lk_ok_push (lk_ok_pop o1 (by omega)) (by omega) sv.1 (fun z => absurd z sv.2))
  · have e : 1 ≤ H := hpo
    obtain ⟨b1, b2⟩ := ha7 (Or.inr rfl)
    have vt := (V (5 + H) (by omega)).1
    refine lk_ok_to (lk_ok_put o1 (by omega) ⟨k3, fun z => absurd z (by decide : ¬ (3 : Int32).toInt < 3), fun _ => ?_, vt.2.2.2.1, vt.2.2.2.2.1, mo⟩ (fun z => absurd z (by decide : ¬ (3 : Int32) = 4)))
    show 0 ≤ (nI a).toInt ∧ (nI a).toInt ≤ 5
    rw [mm_nt (by omega)]; omega
  · exact lk_ok_to o1
  · exact lk_ok_to (lk_ok_pop o1 (by omega))
  · exact lk_ok_to (lk_ok_pop o1 (by omega))
  · exact lk_ok_to (lk_ok_pop o1 (by omega))
  · exact lk_ok_to (lk_ok_pop o1 (by omega))
end
section
/-! WAYS, and what comes along them -/
def lk_cl : mm_F := (-2, -1, 0, fun _ => (0, -1, 0, 0, -1))
def lk_hit (h : mm_H) (j i : Nat) : Prop := (mm_a h 99 j).toInt ≤ (i : Int) ∧ (i : Int) ≤ (mm_a h 100 j).toInt
noncomputable def lk_gd (h : mm_H) (m i : Nat) : Int := @ite _ (0 < (mm_a h 92 m).toInt ∧ lk_hit h (2 * m) i) (Classical.propDecidable _) (mm_a h 101 (2 * m)).toInt (@ite _ (1 < (mm_a h 92 m).toInt ∧ lk_hit h (2 * m + 1) i) (Classical.propDecidable _) (mm_a h 101 (2 * m + 1)).toInt (-1))
/-- where a way leads: to the next one, to the argument, to the guard's at -/
noncomputable def lk_w (h : mm_H) (m i : Nat) : Nat → Int
  | 0 => if lk_o h m i = 13 ∨ 16 ≤ lk_o h m i then -1 else (i : Int) + 1
  | 1 => if 13 ≤ lk_o h m i ∧ lk_o h m i ≤ 15 then (mm_a h 98 (20 * m + i)).toInt else -1
  | _ => if lk_o h m i = 11 ∨ lk_o h m i = 12 ∨ lk_o h m i = 17 then lk_gd h m i else -1
/-- too few values, or too many -/
def lk_bad (h : mm_H) (m i : Nat) (x : Int) : Prop := x < (lk_po h m (lk_o h m i) (lk_a h m i) : Int) ∨ 4 < x - (lk_po h m (lk_o h m i) (lk_a h m i) : Int) + (lk_pu h (lk_o h m i) (lk_a h m i) : Int)
def lk_n0 (x : mm_V) : mm_V := (x.1, x.2.1, 0, x.2.2.2.1, x.2.2.2.2)
def lk_nk (x : mm_V) : mm_V := if x.1 = 3 then (2, -1, x.2.2) else x
/-- ISNULL and the local that is the origin -/
def lk_is (o : Nat) (g : Nat → mm_V) (H : Nat) (F : mm_V → mm_V) (φ : mm_F) : mm_F := if o = 15 ∧ ¬ (g (5 + H)).2.2.2.2 = -1 then (φ.1, φ.2.1, φ.2.2.1, lk_up φ.2.2.2 (g (5 + H)).2.2.2.2.toInt.toNat (F (φ.2.2.2 (g (5 + H)).2.2.2.2.toInt.toNat))) else φ
noncomputable def lk_ew (h : mm_H) (m i H : Nat) (s f : Int32) (g : Nat → mm_V) : Nat → mm_F
  | 0 => lk_is (lk_o h m i) g H lk_n0 (lk_ef h m i H (lk_a h m i) s f g (lk_o h m i))
  | 1 => lk_is (lk_o h m i) g H lk_nk (lk_ef h m i H (lk_a h m i) s f g (lk_o h m i))
  | _ => (1, s, f, lk_up g 6 (3, 0, 0, 0, -1))
noncomputable def lk_out (h : mm_H) (m i w : Nat) (φ : mm_F) : mm_F := @ite _ (lk_bad h m i φ.1.toInt) (Classical.propDecidable _) lk_cl (lk_ew h m i φ.1.toInt.toNat φ.2.1 φ.2.2.1 φ.2.2.2 w)
theorem lk_out_b {h : mm_H} {m i w : Nat} {φ : mm_F} (q : lk_bad h m i φ.1.toInt) : lk_out h m i w φ = lk_cl := if_pos q
theorem lk_out_g {h : mm_H} {m i w : Nat} {φ : mm_F} (q : ¬ lk_bad h m i φ.1.toInt) : lk_out h m i w φ = lk_ew h m i φ.1.toInt.toNat φ.2.1 φ.2.2.1 φ.2.2.2 w := if_neg q
theorem lk_top {up : Nat → Int} {φ : mm_F} : mm_fle up φ lk_cl := Or.inr (Or.inl rfl)
theorem lk_bad_neg {h : mm_H} {m i : Nat} {x : Int} (q : x < 0) : lk_bad h m i x := Or.inl (by omega)
theorem lk_good {h : mm_H} {m i : Nat} {x : Int} (q : ¬ lk_bad h m i x) : 0 ≤ x ∧ lk_po h m (lk_o h m i) (lk_a h m i) ≤ x.toNat ∧ x.toNat - lk_po h m (lk_o h m i) (lk_a h m i) + lk_pu h (lk_o h m i) (lk_a h m i) ≤ 4 := by
  have q1 : ¬ x < (lk_po h m (lk_o h m i) (lk_a h m i) : Int) := fun z => q (Or.inl z)
  have q2 : ¬ 4 < x - (lk_po h m (lk_o h m i) (lk_a h m i) : Int) + (lk_pu h (lk_o h m i) (lk_a h m i) : Int) := fun z => q (Or.inr z)
  omega
theorem lk_n0_le {up : Nat → Int} {x y : mm_V} (hy : mm_vr y) (h : mm_vle up x y) : mm_vle up (lk_n0 x) (lk_n0 y) ∧ mm_vle up (lk_n0 x) y := by
  refine ⟨⟨h.1, Or.inl rfl, h.2.2⟩, ⟨h.1, ?_, h.2.2⟩⟩
  rcases hy.2.2.2.1 with q | q
  · exact Or.inl q.symm
  · exact Or.inr ⟨rfl, q⟩
theorem lk_nk_le {up : Nat → Int} {x y : mm_V} (hx : mm_vr x) (hy : mm_vr y) (h : mm_vle up x y) : mm_vle up (lk_nk x) (lk_nk y) ∧ mm_vle up (lk_nk x) y := by
  unfold lk_nk
  have key : x.1 = 3 → mm_kle up 2 (-1) y.1 y.2.1 := by
    intro q
    rcases h.1 with a | ⟨a, _⟩ | ⟨a, _⟩ | ⟨_, a, _⟩
    · exact Or.inl a
    · exact Or.inr (Or.inr (Or.inl ⟨rfl, a.symm.trans q⟩))
    · exact absurd (a.symm.trans q) (by decide)
    · exact Or.inr (Or.inr (Or.inl ⟨rfl, a⟩))
  by_cases q : x.1 = 3
  · rw [if_pos q]
    refine ⟨?_, ⟨key q, h.2⟩⟩
    by_cases q2 : y.1 = 3
    · rw [if_pos q2]; exact ⟨mm_kle_refl, h.2⟩
    · rw [if_neg q2]; exact ⟨key q, h.2⟩
  · rw [if_neg q]
    refine ⟨?_, h⟩
    by_cases q2 : y.1 = 3
    · rw [if_pos q2]
      refine ⟨?_, h.2⟩
      rcases h.1 with a | ⟨a, _⟩ | ⟨a, _⟩ | ⟨a, _⟩
      · exact absurd (a.symm.trans q2) (by decide)
      · exact absurd (a.trans q2) q
      · exact Or.inr (Or.inl ⟨a, hx.2.1 (by rw [a]; decide)⟩)
      · exact absurd a q
    · rw [if_neg q2]; exact h
theorem lk_org {x : mm_V} (h : mm_vr x) (q : ¬ x.2.2.2.2 = -1) : x.2.2.2.2.toInt.toNat < 6 ∧ x.2.2.2.2 = nI x.2.2.2.2.toInt.toNat := by
  have a := h.2.2.2.2.2
  have b : ¬ x.2.2.2.2.toInt = -1 := lk_nn (n := -1) q (by decide)
  refine ⟨by omega, Int32.toInt_inj.mp ?_⟩
  rw [mm_nt (by omega)]
  omega
theorem lk_is_mono {up : Nat → Int} {na : Int32 → Int32} {H : Nat} {s f s' f' : Int32} {g g' : Nat → mm_V} {F : mm_V → mm_V} (hF : ∀ x y, mm_vr x → mm_vr y → mm_vle up x y → mm_vle up (F x) (F y) ∧ mm_vle up (F x) y) (o1 : lk_ok na H s f g) (o2 : lk_ok na H s' f' g') (p : lk_P up H s f g s' f' g') (h1 : 1 ≤ H) : mm_fle up (lk_is 15 g H F (nI (H - 1), s, f, g)) (lk_is 15 g' H F (nI (H - 1), s', f', g')) := by
  have hH := o1.1
  have vt := o1.2.2.2.2 (5 + H) (by omega)
  have vt' := o2.2.2.2.2 (5 + H) (by omega)
  have pt := (p.2 (5 + H) (by omega)).2.2.2
  unfold lk_is
  by_cases q : (g (5 + H)).2.2.2.2 = -1
  · have q' : (g' (5 + H)).2.2.2.2 = -1 := by
      rcases pt with z | z
      · exact z
      · exact z.symm.trans q
    rw [if_neg (fun z => z.2 q), if_neg (fun z => z.2 q')]
    exact lk_P_to (by omega) (lk_P_pop p (by omega))
  · rw [if_pos ⟨rfl, q⟩]
    have lo := lk_org vt.1 q
    have pl := p.2 (g (5 + H)).2.2.2.2.toInt.toNat (by omega)
    have v1 := (o1.2.2.2.2 (g (5 + H)).2.2.2.2.toInt.toNat (by omega)).1
    have v2 := (o2.2.2.2.2 (g (5 + H)).2.2.2.2.toInt.toNat (by omega)).1
    by_cases q' : (g' (5 + H)).2.2.2.2 = -1
    · rw [if_neg (fun z => z.2 q')]
      refine lk_P_to (by omega) ⟨p.1, fun v hv => ?_⟩
      by_cases e : v = (g (5 + H)).2.2.2.2.toInt.toNat
      · rw [e, lk_up_t]; exact (hF _ _ v1 v2 pl).2
      · rw [lk_up_f e]; exact p.2 v (by omega)
    · rw [if_pos ⟨rfl, q'⟩]
      have eo : (g (5 + H)).2.2.2.2 = (g' (5 + H)).2.2.2.2 := by
        rcases pt with z | z
        · exact absurd z q'
        · exact z
      rw [← eo]
      exact lk_P_to (by omega) (lk_P_put (lk_P_pop p (by omega)) (hF _ _ v1 v2 pl).1)
theorem lk_is_n {o : Nat} {g : Nat → mm_V} {H : Nat} {F : mm_V → mm_V} {φ : mm_F} (h : ¬ o = 15) : lk_is o g H F φ = φ := if_neg (fun z => h z.1)
theorem lk_c3 : mm_vr (3, 0, 0, 0, -1) := by unfold mm_vr; decide
theorem lk_ew_mono {up : Nat → Int} {na : Int32 → Int32} {h : mm_H} {m i H w : Nat} {s f s' f' : Int32} {g g' : Nat → mm_V} (A : lk_AV h m i) (o1 : lk_ok na H s f g) (o2 : lk_ok na H s' f' g') (p : lk_P up H s f g s' f' g') (hpo : lk_po h m (lk_o h m i) (lk_a h m i) ≤ H) (hpu : H - lk_po h m (lk_o h m i) (lk_a h m i) + lk_pu h (lk_o h m i) (lk_a h m i) ≤ 4) : mm_fle up (lk_ew h m i H s f g w) (lk_ew h m i H s' f' g' w) := by
  have hH := o1.1
  have M := lk_ef_mono (m := m) (i := i) o1 o2 p A.1 A.2.1 hpo hpu
  have hb : ∀ F : mm_V → mm_V, (∀ x y, mm_vr x → mm_vr y → mm_vle up x y → mm_vle up (F x) (F y) ∧ mm_vle up (F x) y) → mm_fle up (lk_is (lk_o h m i) g H F (lk_ef h m i H (lk_a h m i) s f g (lk_o h m i))) (lk_is (lk_o h m i) g' H F (lk_ef h m i H (lk_a h m i) s' f' g' (lk_o h m i))) := by
    intro F hF
    by_cases q : lk_o h m i = 15
    · have h1 : 1 ≤ H := by
        rw [q] at hpo
        exact hpo
      rw [q]
      exact lk_is_mono hF o1 o2 p h1
    · rw [lk_is_n q, lk_is_n q]; exact M
  rcases w with _ | _ | w
  · exact hb lk_n0 (fun x y _ hy l => lk_n0_le hy l)
  · exact hb lk_nk (fun x y hx hy l => lk_nk_le hx hy l)
  · refine lk_P_to (H := 1) (by omega) ⟨p.1, fun v hv => ?_⟩
    by_cases e : v = 6
    · rw [e, lk_up_t, lk_up_t]; exact mm_vle_refl
    · rw [lk_up_f e, lk_up_f e]; exact p.2 v (by omega)
theorem lk_is_ok {na : Int32 → Int32} {H : Nat} {s f : Int32} {g : Nat → mm_V} {F : mm_V → mm_V} (hF : ∀ x, mm_vr x → mm_vr (F x) ∧ ((F x).1 = 4 → x.1 = 4 ∧ (F x).2.1 = x.2.1) ∧ (F x).2.2.2.2 = x.2.2.2.2) (o1 : lk_ok na H s f g) (h1 : 1 ≤ H) : mm_fok na (lk_is 15 g H F (nI (H - 1), s, f, g)) := by
  have hH := o1.1
  have vt := o1.2.2.2.2 (5 + H) (by omega)
  unfold lk_is
  by_cases q : (g (5 + H)).2.2.2.2 = -1
  · rw [if_neg (fun z => z.2 q)]
    exact lk_ok_to (lk_ok_pop o1 (by omega))
  · rw [if_pos ⟨rfl, q⟩]
    have lo := lk_org vt.1 q
    obtain ⟨v1, v2, v3⟩ := o1.2.2.2.2 (g (5 + H)).2.2.2.2.toInt.toNat (by omega)
    obtain ⟨f1, f2, f3⟩ := hF _ v1
    refine lk_ok_to ⟨by omega, o1.2.1, o1.2.2.1, o1.2.2.2.1, fun v hv => ?_⟩
    by_cases e : v = (g (5 + H)).2.2.2.2.toInt.toNat
    · rw [e, lk_up_t]
      exact ⟨f1, fun z => by rw [(f2 z).2]; exact v2 (f2 z).1, fun z => by rw [f3]; exact v3 z⟩
    · rw [lk_up_f e]; exact o1.2.2.2.2 v (by omega)
theorem lk_n0_ok (x : mm_V) (h : mm_vr x) : mm_vr (lk_n0 x) ∧ ((lk_n0 x).1 = 4 → x.1 = 4 ∧ (lk_n0 x).2.1 = x.2.1) ∧ (lk_n0 x).2.2.2.2 = x.2.2.2.2 := ⟨⟨h.1, h.2.1, h.2.2.1, Or.inl rfl, h.2.2.2.2⟩, fun z => ⟨z, rfl⟩, rfl⟩
theorem lk_nk_ok (x : mm_V) (h : mm_vr x) : mm_vr (lk_nk x) ∧ ((lk_nk x).1 = 4 → x.1 = 4 ∧ (lk_nk x).2.1 = x.2.1) ∧ (lk_nk x).2.2.2.2 = x.2.2.2.2 := by
  unfold lk_nk
  by_cases q : x.1 = 3
  · rw [if_pos q]
    exact ⟨⟨(by decide : 0 ≤ (2 : Int32).toInt ∧ (2 : Int32).toInt ≤ 4), fun _ => rfl, fun z => absurd z (by decide : ¬ 3 ≤ (2 : Int32).toInt), h.2.2.2⟩, fun z => absurd z (by decide : ¬ (2 : Int32) = 4), rfl⟩
  · rw [if_neg q]; exact ⟨h, fun z => ⟨z, rfl⟩, rfl⟩
theorem lk_ew_ok {h : mm_H} {m i H w : Nat} {s f : Int32} {g : Nat → mm_V} (S : lk_SV h) (hi : i < 20) (A : lk_AV h m i) (o1 : lk_ok (lk_na h m) H s f g) (hpo : lk_po h m (lk_o h m i) (lk_a h m i) ≤ H) (hpu : H - lk_po h m (lk_o h m i) (lk_a h m i) + lk_pu h (lk_o h m i) (lk_a h m i) ≤ 4) : mm_fok (lk_na h m) (lk_ew h m i H s f g w) := by
  have M := lk_ef_ok S hi o1 A.1 A.2.1 A.2.2.1 A.2.2.2.1 A.2.2.2.2 hpo hpu
  have hb : ∀ F : mm_V → mm_V, (∀ x, mm_vr x → mm_vr (F x) ∧ ((F x).1 = 4 → x.1 = 4 ∧ (F x).2.1 = x.2.1) ∧ (F x).2.2.2.2 = x.2.2.2.2) → mm_fok (lk_na h m) (lk_is (lk_o h m i) g H F (lk_ef h m i H (lk_a h m i) s f g (lk_o h m i))) := by
    intro F hF
    by_cases q : lk_o h m i = 15
    · have h1 : 1 ≤ H := by
        rw [q] at hpo
        exact hpo
      rw [q]
      exact lk_is_ok hF o1 h1
    · rw [lk_is_n q]; exact M
  rcases w with _ | _ | w
  · exact hb lk_n0 lk_n0_ok
  · exact hb lk_nk lk_nk_ok
  · refine lk_ok_to (H := 1) ⟨by omega, o1.2.1, o1.2.2.1, o1.2.2.2.1, fun v hv => ?_⟩
    by_cases e : v = 6
    · rw [e, lk_up_t]; exact ⟨lk_c3, fun z => absurd z (by decide), fun z => by omega⟩
    · rw [lk_up_f e]; exact o1.2.2.2.2 v (by omega)
/-- a frame that is none, CLASH, or there -/
def lk_pr (φ : mm_F) : Prop := φ.1 = -1 ∨ φ.1 = -2 ∨ 0 ≤ φ.1.toInt
theorem lk_nI_of {x : Int32} (h : 0 ≤ x.toInt) (h4 : x.toInt ≤ 4) : x = nI x.toInt.toNat := Int32.toInt_inj.mp (by rw [mm_nt (by omega)]; omega)
theorem lk_out_ok {h : mm_H} {m i w : Nat} {φ : mm_F} (S : lk_SV h) (hi : i < 20) (A : lk_AV h m i) (o1 : mm_fok (lk_na h m) φ) : mm_fok (lk_na h m) (lk_out h m i w φ) ∧ (lk_out h m i w φ).1 ≠ -1 := by
  by_cases q : lk_bad h m i φ.1.toInt
  · rw [lk_out_b q]
    exact ⟨fun z => absurd z (by decide), by decide⟩
  · rw [lk_out_g q]
    obtain ⟨g0, g1, g2⟩ := lk_good q
    have h4 := (o1 g0).1
    have e := lk_nI_of g0 h4
    have o2 : lk_ok (lk_na h m) φ.1.toInt.toNat φ.2.1 φ.2.2.1 φ.2.2.2 := lk_ok_of (by omega) (by rw [← e]; exact o1)
    refine ⟨lk_ew_ok S hi A o2 g1 g2, ?_⟩
    have hn : ∀ n : Nat, n ≤ 5 → nI n ≠ -1 := fun n hn => mm_not_m1 (by rw [mm_nt (by omega)]; omega)
    have he : ∀ o, o < 18 → (lk_ef h m i φ.1.toInt.toNat (lk_a h m i) φ.2.1 φ.2.2.1 φ.2.2.2 o).1 ≠ -1 := by
      intro o ho
      rcases lk_o_cases ho with rfl | rfl | rfl | rfl | rfl | rfl | rfl | rfl | rfl | rfl | rfl | rfl | rfl | rfl | rfl | rfl | rfl | rfl
      case _ => exact hn _ (by omega)
      case _ => exact hn _ (by omega)
      case _ => exact hn _ (by omega)
      case _ => exact hn _ (by omega)
      case _ => exact hn _ (by omega)
      case _ => exact hn _ (by omega)
      case _ => exact hn _ (by omega)
      case _ => exact hn _ (by omega)
      case _ => exact hn _ (by omega)
      case _ => exact hn _ (by omega)
      case _ => exact hn _ (by omega)
      case _ =>
        show (if mm_a h 93 (4 * lk_a h m i + 3) = -2 then _ else _ : mm_F).1 ≠ -1
        split
        · exact hn _ (by omega)
        · exact hn _ (by omega)
      case _ => exact hn _ (by omega)
      case _ => exact hn _ (by omega)
      case _ => exact hn _ (by omega)
      case _ => exact hn _ (by omega)
      case _ => exact hn _ (by omega)
      case _ => exact hn _ (by omega)
    have hs : ∀ F : mm_V → mm_V, (lk_is (lk_o h m i) φ.2.2.2 φ.1.toInt.toNat F (lk_ef h m i φ.1.toInt.toNat (lk_a h m i) φ.2.1 φ.2.2.1 φ.2.2.2 (lk_o h m i))).1 ≠ -1 := by
      intro F
      unfold lk_is
      split
      · exact he _ A.1
      · exact he _ A.1
    rcases w with _ | _ | w
    · exact hs lk_n0
    · exact hs lk_nk
    · exact (by decide : (1 : Int32) ≠ -1)
theorem lk_out_mono {up : Nat → Int} {h : mm_H} {m i w : Nat} {φ ψ : mm_F} (A : lk_AV h m i) (o1 : mm_fok (lk_na h m) φ) (o2 : mm_fok (lk_na h m) ψ) (n1 : ¬ φ.1 = -1) (l : mm_fle up φ ψ) : mm_fle up (lk_out h m i w φ) (lk_out h m i w ψ) := by
  rcases l with l | l | l
  · exact absurd l n1
  · rw [lk_out_b (φ := ψ) (lk_bad_neg (by rw [l]; decide))]
    exact lk_top
  · obtain ⟨e, p0, l3, l4⟩ := l
    by_cases q : lk_bad h m i φ.1.toInt
    · rw [lk_out_b (φ := ψ) (by rw [← e]; exact q)]
      exact lk_top
    · rw [lk_out_g q, lk_out_g (φ := ψ) (by rw [← e]; exact q)]
      obtain ⟨g0, g1, g2⟩ := lk_good q
      have h4 := (o1 g0).1
      have e1 := lk_nI_of g0 h4
      have e2 : ψ.1 = nI φ.1.toInt.toNat := e.symm.trans e1
      have k1 : lk_ok (lk_na h m) φ.1.toInt.toNat φ.2.1 φ.2.2.1 φ.2.2.2 := lk_ok_of (by omega) (by rw [← e1]; exact o1)
      have k2 : lk_ok (lk_na h m) φ.1.toInt.toNat ψ.2.1 ψ.2.2.1 ψ.2.2.2 := lk_ok_of (by omega) (by rw [← e2]; exact o2)
      have p : lk_P up φ.1.toInt.toNat φ.2.1 φ.2.2.1 φ.2.2.2 ψ.2.1 ψ.2.2.1 ψ.2.2.2 := ⟨l3, fun v hv => l4 v (by show (v : Int) < 6 + φ.1.toInt; omega)⟩
      rw [← e]
      exact lk_ew_mono A k1 k2 p g1 g2
end
section
/-! THE REFERENCE WHILE IT LOOKS: a base, seen/place/changes, the frame at hand, heads and values of the frames that are kept (wip/whole/gen_view.py) -/
def lk_L (h0 : mm_H) (e : Int32 × Int32 × Int32) (c : mm_F) (hd : Nat → Int32 × Int32 × Int32) (sv : Nat → mm_V) : mm_H := (mm_k h0, (fun f a => if a = 80 then (if f = 608 then e.1 else if f = 609 then e.2.1 else if f = 610 then e.2.2 else if f = 611 then c.1 else if f = 612 then c.2.1 else if f = 613 then c.2.2.1 else mm_i h0 f a) else mm_i h0 f a), mm_r h0, mm_n h0, (fun a j => if a = 102 then (hd j).1 else if a = 103 then (hd j).2.1 else if a = 104 then (hd j).2.2 else if a = 105 then (sv j).1 else if a = 106 then (sv j).2.1 else if a = 107 then (sv j).2.2.2.1 else if a = 108 then (sv j).2.2.2.2 else if a = 109 then (sv j).2.2.1 else if a = 110 then (c.2.2.2 j).1 else if a = 111 then (c.2.2.2 j).2.1 else if a = 112 then (c.2.2.2 j).2.2.2.1 else if a = 113 then (c.2.2.2 j).2.2.2.2 else if a = 114 then (c.2.2.2 j).2.2.1 else mm_a h0 a j), mm_q h0, mm_t h0, mm_s h0)
def lk_hu (hd : Nat → Int32 × Int32 × Int32) (i : Nat) (x : Int32 × Int32 × Int32) : Nat → Int32 × Int32 × Int32 := fun j => if j = i then x else hd j
def lk_vw (h : mm_H) : mm_H := lk_L h (mm_i h 608 80, mm_i h 609 80, mm_i h 610 80) (mm_i h 611 80, mm_i h 612 80, mm_i h 613 80, fun v => (mm_a h 110 v, mm_a h 111 v, mm_a h 114 v, mm_a h 112 v, mm_a h 113 v)) (fun i => (mm_a h 102 i, mm_a h 103 i, mm_a h 104 i)) (fun x => (mm_a h 105 x, mm_a h 106 x, mm_a h 109 x, mm_a h 107 x, mm_a h 108 x))
theorem lk_H {k : Nat → Nat} {i i2 : Nat → Nat → Int32} {r : Nat → Nat → Nat} {n : Nat → Nat} {a a2 : Nat → Nat → Int32} {q : Nat → Nat → Nat} {t s : Nat} (hi : ∀ x y, i x y = i2 x y) (ha : ∀ x y, a x y = a2 x y) : (k, i, r, n, a, q, t, s) = ((k, i2, r, n, a2, q, t, s) : mm_H) := by
  rw [show i = i2 from funext (fun x => funext (hi x)), show a = a2 from funext (fun x => funext (ha x))]
theorem lw_set {h0 : mm_H} {e : Int32 × Int32 × Int32} {c : mm_F} {hd : Nat → Int32 × Int32 × Int32} {sv : Nat → mm_V} {j : Nat} {k r n w o : Int32} : mm_sa (mm_sa (mm_sa (mm_sa (mm_sa (lk_L h0 e c hd sv) 110 j k) 111 j r) 114 j n) 112 j w) 113 j o = lk_L h0 e (c.1, c.2.1, c.2.2.1, lk_up c.2.2.2 j (k, r, n, w, o)) hd sv := by
  refine lk_H (fun _ _ => rfl) (fun a b => ?_)
  by_cases hb : b = j
  · subst hb
    by_cases h110 : a = 110
    · subst h110; simp [mm_u, mm_a, mm_sa, lk_L, lk_up, lk_hu, lk_wo]
    by_cases h111 : a = 111
    · subst h111; simp [mm_u, mm_a, mm_sa, lk_L, lk_up, lk_hu, lk_wo]
    by_cases h114 : a = 114
    · subst h114; simp [mm_u, mm_a, mm_sa, lk_L, lk_up, lk_hu, lk_wo]
    by_cases h112 : a = 112
    · subst h112; simp [mm_u, mm_a, mm_sa, lk_L, lk_up, lk_hu, lk_wo]
    by_cases h113 : a = 113
    · subst h113; simp [mm_u, mm_a, mm_sa, lk_L, lk_up, lk_hu, lk_wo]
    simp [mm_u, mm_a, mm_sa, lk_L, lk_up, lk_hu, lk_wo, h110, h111, h114, h112, h113]
  · simp [mm_u, mm_a, mm_sa, lk_L, lk_up, lk_hu, lk_wo, hb]
theorem lw_keep {h0 : mm_H} {e : Int32 × Int32 × Int32} {c : mm_F} {hd : Nat → Int32 × Int32 × Int32} {sv : Nat → mm_V} {j : Nat} {k r n w o : Int32} : mm_sa (mm_sa (mm_sa (mm_sa (mm_sa (lk_L h0 e c hd sv) 105 j k) 106 j r) 109 j n) 107 j w) 108 j o = lk_L h0 e c hd (lk_up sv j (k, r, n, w, o)) := by
  refine lk_H (fun _ _ => rfl) (fun a b => ?_)
  by_cases hb : b = j
  · subst hb
    by_cases h105 : a = 105
    · subst h105; simp [mm_u, mm_a, mm_sa, lk_L, lk_up, lk_hu, lk_wo]
    by_cases h106 : a = 106
    · subst h106; simp [mm_u, mm_a, mm_sa, lk_L, lk_up, lk_hu, lk_wo]
    by_cases h109 : a = 109
    · subst h109; simp [mm_u, mm_a, mm_sa, lk_L, lk_up, lk_hu, lk_wo]
    by_cases h107 : a = 107
    · subst h107; simp [mm_u, mm_a, mm_sa, lk_L, lk_up, lk_hu, lk_wo]
    by_cases h108 : a = 108
    · subst h108; simp [mm_u, mm_a, mm_sa, lk_L, lk_up, lk_hu, lk_wo]
    simp [mm_u, mm_a, mm_sa, lk_L, lk_up, lk_hu, lk_wo, h105, h106, h109, h107, h108]
  · simp [mm_u, mm_a, mm_sa, lk_L, lk_up, lk_hu, lk_wo, hb]
theorem lw_o {h0 : mm_H} {e : Int32 × Int32 × Int32} {c : mm_F} {hd : Nat → Int32 × Int32 × Int32} {sv : Nat → mm_V} {j : Nat} {o : Int32} : mm_sa (lk_L h0 e c hd sv) 113 j o = lk_L h0 e (c.1, c.2.1, c.2.2.1, lk_up c.2.2.2 j (lk_wo (c.2.2.2 j) o)) hd sv := by
  refine lk_H (fun _ _ => rfl) (fun a b => ?_)
  by_cases hb : b = j
  · subst hb
    by_cases h113 : a = 113
    · subst h113; simp [mm_u, mm_a, mm_sa, lk_L, lk_up, lk_hu, lk_wo]
    simp [mm_u, mm_a, mm_sa, lk_L, lk_up, lk_hu, lk_wo, h113]
  · simp [mm_u, mm_a, mm_sa, lk_L, lk_up, lk_hu, lk_wo, hb]
theorem lw_k {h0 : mm_H} {e : Int32 × Int32 × Int32} {c : mm_F} {hd : Nat → Int32 × Int32 × Int32} {sv : Nat → mm_V} {j : Nat} {k : Int32} : mm_sa (lk_L h0 e c hd sv) 110 j k = lk_L h0 e (c.1, c.2.1, c.2.2.1, lk_up c.2.2.2 j (k, (c.2.2.2 j).2)) hd sv := by
  refine lk_H (fun _ _ => rfl) (fun a b => ?_)
  by_cases hb : b = j
  · subst hb
    by_cases h110 : a = 110
    · subst h110; simp [mm_u, mm_a, mm_sa, lk_L, lk_up, lk_hu, lk_wo]
    simp [mm_u, mm_a, mm_sa, lk_L, lk_up, lk_hu, lk_wo, h110]
  · simp [mm_u, mm_a, mm_sa, lk_L, lk_up, lk_hu, lk_wo, hb]
theorem lw_kc {h0 : mm_H} {e : Int32 × Int32 × Int32} {c : mm_F} {hd : Nat → Int32 × Int32 × Int32} {sv : Nat → mm_V} {j : Nat} {k r : Int32} : mm_sa (mm_sa (lk_L h0 e c hd sv) 110 j k) 111 j r = lk_L h0 e (c.1, c.2.1, c.2.2.1, lk_up c.2.2.2 j (k, r, (c.2.2.2 j).2.2)) hd sv := by
  refine lk_H (fun _ _ => rfl) (fun a b => ?_)
  by_cases hb : b = j
  · subst hb
    by_cases h110 : a = 110
    · subst h110; simp [mm_u, mm_a, mm_sa, lk_L, lk_up, lk_hu, lk_wo]
    by_cases h111 : a = 111
    · subst h111; simp [mm_u, mm_a, mm_sa, lk_L, lk_up, lk_hu, lk_wo]
    simp [mm_u, mm_a, mm_sa, lk_L, lk_up, lk_hu, lk_wo, h110, h111]
  · simp [mm_u, mm_a, mm_sa, lk_L, lk_up, lk_hu, lk_wo, hb]
theorem lw_hi {h0 : mm_H} {e : Int32 × Int32 × Int32} {c : mm_F} {hd : Nat → Int32 × Int32 × Int32} {sv : Nat → mm_V} {j : Nat} {x : Int32} : mm_sa (lk_L h0 e c hd sv) 102 j x = lk_L h0 e c (lk_hu hd j (x, (hd j).2)) sv := by
  refine lk_H (fun _ _ => rfl) (fun a b => ?_)
  by_cases hb : b = j
  · subst hb
    by_cases h102 : a = 102
    · subst h102; simp [mm_u, mm_a, mm_sa, lk_L, lk_up, lk_hu, lk_wo]
    simp [mm_u, mm_a, mm_sa, lk_L, lk_up, lk_hu, lk_wo, h102]
  · simp [mm_u, mm_a, mm_sa, lk_L, lk_up, lk_hu, lk_wo, hb]
theorem lw_hss {h0 : mm_H} {e : Int32 × Int32 × Int32} {c : mm_F} {hd : Nat → Int32 × Int32 × Int32} {sv : Nat → mm_V} {j : Nat} {x y z : Int32} : mm_sa (mm_sa (mm_sa (lk_L h0 e c hd sv) 102 j x) 103 j y) 104 j z = lk_L h0 e c (lk_hu hd j (x, y, z)) sv := by
  refine lk_H (fun _ _ => rfl) (fun a b => ?_)
  by_cases hb : b = j
  · subst hb
    by_cases h102 : a = 102
    · subst h102; simp [mm_u, mm_a, mm_sa, lk_L, lk_up, lk_hu, lk_wo]
    by_cases h103 : a = 103
    · subst h103; simp [mm_u, mm_a, mm_sa, lk_L, lk_up, lk_hu, lk_wo]
    by_cases h104 : a = 104
    · subst h104; simp [mm_u, mm_a, mm_sa, lk_L, lk_up, lk_hu, lk_wo]
    simp [mm_u, mm_a, mm_sa, lk_L, lk_up, lk_hu, lk_wo, h102, h103, h104]
  · simp [mm_u, mm_a, mm_sa, lk_L, lk_up, lk_hu, lk_wo, hb]
theorem lw_se {h0 : mm_H} {e : Int32 × Int32 × Int32} {c : mm_F} {hd : Nat → Int32 × Int32 × Int32} {sv : Nat → mm_V} {j : Nat} {z : Int32} : mm_sa (lk_L h0 e c hd sv) 104 j z = lk_L h0 e c (lk_hu hd j ((hd j).1, (hd j).2.1, z)) sv := by
  refine lk_H (fun _ _ => rfl) (fun a b => ?_)
  by_cases hb : b = j
  · subst hb
    by_cases h104 : a = 104
    · subst h104; simp [mm_u, mm_a, mm_sa, lk_L, lk_up, lk_hu, lk_wo]
    simp [mm_u, mm_a, mm_sa, lk_L, lk_up, lk_hu, lk_wo, h104]
  · simp [mm_u, mm_a, mm_sa, lk_L, lk_up, lk_hu, lk_wo, hb]
theorem lw_si {h0 : mm_H} {e : Int32 × Int32 × Int32} {c : mm_F} {hd : Nat → Int32 × Int32 × Int32} {sv : Nat → mm_V} {j : Nat} {y : Int32} : mm_sa (lk_L h0 e c hd sv) 103 j y = lk_L h0 e c (lk_hu hd j ((hd j).1, y, (hd j).2.2)) sv := by
  refine lk_H (fun _ _ => rfl) (fun a b => ?_)
  by_cases hb : b = j
  · subst hb
    by_cases h103 : a = 103
    · subst h103; simp [mm_u, mm_a, mm_sa, lk_L, lk_up, lk_hu, lk_wo]
    simp [mm_u, mm_a, mm_sa, lk_L, lk_up, lk_hu, lk_wo, h103]
  · simp [mm_u, mm_a, mm_sa, lk_L, lk_up, lk_hu, lk_wo, hb]
theorem lw_608 {h0 : mm_H} {e : Int32 × Int32 × Int32} {c : mm_F} {hd : Nat → Int32 × Int32 × Int32} {sv : Nat → mm_V} {x : Int32} : mm_si (lk_L h0 e c hd sv) 608 80 x = lk_L h0 (x, e.2) c hd sv := by
  refine lk_H (fun f a => ?_) (fun _ _ => rfl)
  by_cases ha : a = 80
  · subst ha
    by_cases hf : f = 608
    · subst hf; simp [mm_u, mm_i, lk_L]
    · simp [mm_u, mm_i, lk_L, hf]
  · simp [mm_u, mm_i, lk_L, ha]
theorem lw_609 {h0 : mm_H} {e : Int32 × Int32 × Int32} {c : mm_F} {hd : Nat → Int32 × Int32 × Int32} {sv : Nat → mm_V} {x : Int32} : mm_si (lk_L h0 e c hd sv) 609 80 x = lk_L h0 (e.1, x, e.2.2) c hd sv := by
  refine lk_H (fun f a => ?_) (fun _ _ => rfl)
  by_cases ha : a = 80
  · subst ha
    by_cases hf : f = 609
    · subst hf; simp [mm_u, mm_i, lk_L]
    · simp [mm_u, mm_i, lk_L, hf]
  · simp [mm_u, mm_i, lk_L, ha]
theorem lw_610 {h0 : mm_H} {e : Int32 × Int32 × Int32} {c : mm_F} {hd : Nat → Int32 × Int32 × Int32} {sv : Nat → mm_V} {x : Int32} : mm_si (lk_L h0 e c hd sv) 610 80 x = lk_L h0 (e.1, e.2.1, x) c hd sv := by
  refine lk_H (fun f a => ?_) (fun _ _ => rfl)
  by_cases ha : a = 80
  · subst ha
    by_cases hf : f = 610
    · subst hf; simp [mm_u, mm_i, lk_L]
    · simp [mm_u, mm_i, lk_L, hf]
  · simp [mm_u, mm_i, lk_L, ha]
theorem lw_611 {h0 : mm_H} {e : Int32 × Int32 × Int32} {c : mm_F} {hd : Nat → Int32 × Int32 × Int32} {sv : Nat → mm_V} {x : Int32} : mm_si (lk_L h0 e c hd sv) 611 80 x = lk_L h0 e (x, c.2) hd sv := by
  refine lk_H (fun f a => ?_) (fun _ _ => rfl)
  by_cases ha : a = 80
  · subst ha
    by_cases hf : f = 611
    · subst hf; simp [mm_u, mm_i, lk_L]
    · simp [mm_u, mm_i, lk_L, hf]
  · simp [mm_u, mm_i, lk_L, ha]
theorem lw_612 {h0 : mm_H} {e : Int32 × Int32 × Int32} {c : mm_F} {hd : Nat → Int32 × Int32 × Int32} {sv : Nat → mm_V} {x : Int32} : mm_si (lk_L h0 e c hd sv) 612 80 x = lk_L h0 e (c.1, x, c.2.2) hd sv := by
  refine lk_H (fun f a => ?_) (fun _ _ => rfl)
  by_cases ha : a = 80
  · subst ha
    by_cases hf : f = 612
    · subst hf; simp [mm_u, mm_i, lk_L]
    · simp [mm_u, mm_i, lk_L, hf]
  · simp [mm_u, mm_i, lk_L, ha]
theorem lw_613 {h0 : mm_H} {e : Int32 × Int32 × Int32} {c : mm_F} {hd : Nat → Int32 × Int32 × Int32} {sv : Nat → mm_V} {x : Int32} : mm_si (lk_L h0 e c hd sv) 613 80 x = lk_L h0 e (c.1, c.2.1, x, c.2.2.2) hd sv := by
  refine lk_H (fun f a => ?_) (fun _ _ => rfl)
  by_cases ha : a = 80
  · subst ha
    by_cases hf : f = 613
    · subst hf; simp [mm_u, mm_i, lk_L]
    · simp [mm_u, mm_i, lk_L, hf]
  · simp [mm_u, mm_i, lk_L, ha]
theorem lw_self {h : mm_H} : lk_vw h = h := by
  refine (lk_H (fun f a => ?_) (fun a b => ?_)).trans (rfl : (mm_k h, mm_i h, mm_r h, mm_n h, mm_a h, mm_q h, mm_t h, mm_s h) = h)
  · show (if a = 80 then _ else _) = _
    by_cases ha : a = 80
    · subst ha
      rw [if_pos rfl]
      by_cases h608 : f = 608
      · subst h608; rfl
      by_cases h609 : f = 609
      · subst h609; rfl
      by_cases h610 : f = 610
      · subst h610; rfl
      by_cases h611 : f = 611
      · subst h611; rfl
      by_cases h612 : f = 612
      · subst h612; rfl
      by_cases h613 : f = 613
      · subst h613; rfl
      rw [if_neg h608, if_neg h609, if_neg h610, if_neg h611, if_neg h612, if_neg h613]
    · rw [if_neg ha]
  by_cases h102 : a = 102
  · subst h102; rfl
  by_cases h103 : a = 103
  · subst h103; rfl
  by_cases h104 : a = 104
  · subst h104; rfl
  by_cases h105 : a = 105
  · subst h105; rfl
  by_cases h106 : a = 106
  · subst h106; rfl
  by_cases h107 : a = 107
  · subst h107; rfl
  by_cases h108 : a = 108
  · subst h108; rfl
  by_cases h109 : a = 109
  · subst h109; rfl
  by_cases h110 : a = 110
  · subst h110; rfl
  by_cases h111 : a = 111
  · subst h111; rfl
  by_cases h112 : a = 112
  · subst h112; rfl
  by_cases h113 : a = 113
  · subst h113; rfl
  by_cases h114 : a = 114
  · subst h114; rfl
  show (if a = 102 then _ else _) = _
  rw [if_neg h102, if_neg h103, if_neg h104, if_neg h105, if_neg h106, if_neg h107, if_neg h108, if_neg h109, if_neg h110, if_neg h111, if_neg h112, if_neg h113, if_neg h114]
theorem lw_SH {h0 : mm_H} {e : Int32 × Int32 × Int32} {c : mm_F} {hd : Nat → Int32 × Int32 × Int32} {sv : Nat → mm_V} (I : mm_SH h0) : mm_SH (lk_L h0 e c hd sv) := I
end
section
/-! THE REFERENCE'S FRAME AT HAND: set, push, keep, settle, take -/
def lk_bn (g : Nat → mm_V) : Prop := ∀ v, (g v).2.2.1 = 0 ∨ (g v).2.2.1 = 1
theorem lk_bn_up {g : Nat → mm_V} {j : Nat} {x : mm_V} (h : lk_bn g) (hx : x.2.2.1 = 0 ∨ x.2.2.1 = 1) : lk_bn (lk_up g j x) := by
  intro v
  by_cases q : v = j
  · rw [q, lk_up_t]; exact hx
  · rw [lk_up_f q]; exact h v
theorem lk_up_up {g : Nat → mm_V} {j : Nat} {x y : mm_V} : lk_up (lk_up g j x) j y = lk_up g j y := by
  funext v
  by_cases q : v = j
  · rw [q, lk_up_t, lk_up_t]
  · rw [lk_up_f q, lk_up_f q, lk_up_f q]
def lk_pre (A g : Nat → mm_V) (j : Nat) : Nat → mm_V := fun v => if v < j then A v else g v
theorem lk_pre_t {A g : Nat → mm_V} {j v : Nat} (h : v < j) : lk_pre A g j v = A v := if_pos h
theorem lk_pre_f {A g : Nat → mm_V} {j v : Nat} (h : ¬ v < j) : lk_pre A g j v = g v := if_neg h
theorem lk_pre_0 {A g : Nat → mm_V} : lk_pre A g 0 = g := funext (fun _ => if_neg (Nat.not_lt_zero _))
theorem lk_pre_up {A g : Nat → mm_V} {j : Nat} : lk_up (lk_pre A g j) j (A j) = lk_pre A g (j + 1) := by
  funext v
  by_cases q : v = j
  · rw [q, lk_up_t, lk_pre_t (by omega)]
  · rw [lk_up_f q]
    by_cases q2 : v < j
    · rw [lk_pre_t q2, lk_pre_t (by omega)]
    · rw [lk_pre_f q2, lk_pre_f (by omega)]
theorem lk_pre_same {A g : Nat → mm_V} {j : Nat} (h : A j = g j) : lk_pre A g (j + 1) = lk_pre A g j := by
  funext v
  by_cases q : v = j
  · rw [q, lk_pre_t (by omega), lk_pre_f (by omega), h]
  · by_cases q2 : v < j
    · rw [lk_pre_t q2, lk_pre_t (by omega)]
    · rw [lk_pre_f q2, lk_pre_f (by omega)]
theorem lk_bn_pre {A g : Nat → mm_V} {j : Nat} (h : lk_bn A) (hg : lk_bn g) : lk_bn (lk_pre A g j) := by
  intro v
  by_cases q : v < j
  · rw [lk_pre_t q]; exact h v
  · rw [lk_pre_f q]; exact hg v
theorem c_Mo_set {ro : mm_Ro} {d j : Nat} {h0 : mm_H} {e : Int32 × Int32 × Int32} {c : mm_F} {hd : Nat → Int32 × Int32 × Int32} {sv : Nat → mm_V} {x k r n w : Int32} {Q : Value → mm_H → Prop} (I : mm_SH h0) (hx : x = nI j) (hj : j < 10) (hn : n = 0 ∨ n = 1) (hQ : Q .null (lk_L h0 e (c.1, c.2.1, c.2.2.1, lk_up c.2.2.2 j (k, r, n, w, -1)) hd sv)) : mm_ev ro (d + 1) n_Mo_set [.ref 80, .int x, .int k, .int r, .int n, .int w] (lk_L h0 e c hd sv) Q := by
  subst hx
  have J : mm_SH (lk_L h0 e c hd sv) := I
  have hB : 0 ≤ (nI j).toInt ∧ (nI j).toInt < ((10 : Nat) : Int) := mm_nb hj (by omega)
  have hc : (nI j).toNatClampNeg = j := mm_ncl (by omega)
  refine mm_ev_in (Z := mm_m_Mo_set) rfl rfl (Nat.le_of_ble_eq_true rfl) rfl ?_
  refine And.intro (k_80 J) (mm_rf (r_614 J) (And.intro ⟨k_110 J, mm_inb 10 (n_110 J) hB⟩ (And.intro (k_80 J) (mm_rf (r_615 J) (And.intro ⟨k_111 J, mm_inb 10 (n_111 J) hB⟩ (And.intro (k_80 J) (mm_rf (r_618 J) (And.intro ⟨k_114 J, mm_inb 10 (n_114 J) hB, hn⟩ (And.intro (k_80 J) (mm_rf (r_616 J) (And.intro ⟨k_112 J, mm_inb 10 (n_112 J) hB⟩ (And.intro (k_80 J) (mm_rf (r_617 J) (And.intro ⟨k_113 J, mm_inb 10 (n_113 J) hB⟩ (?_)))))))))))))))
  refine mm_qq hQ rfl ?_
  show mm_sa (mm_sa (mm_sa (mm_sa (mm_sa (lk_L h0 e c hd sv) 110 (nI j).toNatClampNeg k) 111 (nI j).toNatClampNeg r) 114 (nI j).toNatClampNeg n) 112 (nI j).toNatClampNeg w) 113 (nI j).toNatClampNeg (-1) = _
  rw [hc]
  exact lw_set
theorem c_Mo_push {ro : mm_Ro} {d j : Nat} {h0 : mm_H} {e : Int32 × Int32 × Int32} {c : mm_F} {hd : Nat → Int32 × Int32 × Int32} {sv : Nat → mm_V} {k r n w : Int32} {Q : Value → mm_H → Prop} (I : mm_SH h0) (hx : 6 + c.1 = nI j) (hj : j < 10) (hn : n = 0 ∨ n = 1) (hQ : Q .null (lk_L h0 e (c.1 + 1, c.2.1, c.2.2.1, lk_up c.2.2.2 j (k, r, n, w, -1)) hd sv)) : mm_ev ro (d + 2) n_Mo_push [.ref 80, .int k, .int r, .int n, .int w] (lk_L h0 e c hd sv) Q := by
  have J : mm_SH (lk_L h0 e c hd sv) := I
  refine mm_ev_in (Z := mm_m_Mo_push) rfl rfl (Nat.le_of_ble_eq_true rfl) rfl ?_
  refine And.intro (k_80 J) (mm_rf (show mm_i (lk_L h0 e c hd sv) 611 80 = c.1 from rfl) (And.intro ⟨rfl, k_80 J⟩ (c_Mo_set I hx hj hn (And.intro (k_80 J) (mm_rf rfl (And.intro (k_80 J) (?_)))))))
  exact mm_qq hQ rfl lw_611
theorem c_Mo_pushSaid {ro : mm_Ro} {d j : Nat} {h0 : mm_H} {e : Int32 × Int32 × Int32} {c : mm_F} {hd : Nat → Int32 × Int32 × Int32} {sv : Nat → mm_V} {s n w : Int32} {Q : Value → mm_H → Prop} (I : mm_SH h0) (hx : 6 + c.1 = nI j) (hj : j < 10) (hn : n = 0 ∨ n = 1) (hQ : Q .null (lk_L h0 e (c.1 + 1, c.2.1, c.2.2.1, lk_up c.2.2.2 j (lk_sv s n w)) hd sv)) : mm_ev ro (d + 3) n_Mo_pushSaid [.ref 80, .int s, .int n, .int w] (lk_L h0 e c hd sv) Q := by
  have J : mm_SH (lk_L h0 e c hd sv) := I
  refine mm_ev_in (Z := mm_m_Mo_pushSaid) rfl rfl (Nat.le_of_ble_eq_true rfl) rfl ?_
  refine And.intro (fun c_2 => mm_go_from (mm_hM n_Mo_pushSaid rfl) ?_) (fun c_2 => ?_)
  · have q : ¬ s = -1 := c_2
    have e1 : lk_sv s n w = (3, s, n, w, -1) := if_neg q
    rw [e1] at hQ
    exact And.intro ⟨rfl, k_80 J⟩ (c_Mo_push I hx hj hn hQ)
  · have q : s = -1 := mm_no c_2
    have e1 : lk_sv s n w = (1, -1, 0, w, -1) := if_pos q
    rw [e1] at hQ
    exact And.intro ⟨rfl, k_80 J⟩ (c_Mo_push I hx hj (Or.inl rfl) (mm_go_from (mm_hM n_Mo_pushSaid rfl) hQ))
/-- a slot as it is kept: a local has no origin -/
def lk_kp (v : Nat) (x : mm_V) : mm_V := if v < 6 then lk_wo x (-1) else x
theorem lk_10 {i v : Nat} : (Int8.ofInt 10).toInt32 * nI i + nI v = nI (10 * i + v) := mm_lin 10 i v
theorem c_Mo_keep {ro : mm_Ro} {d i v : Nat} {h0 : mm_H} {e : Int32 × Int32 × Int32} {c : mm_F} {hd : Nat → Int32 × Int32 × Int32} {sv : Nat → mm_V} {Q : Value → mm_H → Prop} (I : mm_SH h0) (hi : i < 20) (hv : v < 10) (hb : lk_bn c.2.2.2) (hQ : Q .null (lk_L h0 e c hd (lk_up sv (10 * i + v) (lk_kp v (c.2.2.2 v))))) : mm_ev ro (d + 1) n_Mo_keep [.ref 80, .int (nI i), .int (nI v)] (lk_L h0 e c hd sv) Q := by
  have J : mm_SH (lk_L h0 e c hd sv) := I
  have hB : 0 ≤ (nI v).toInt ∧ (nI v).toInt < ((10 : Nat) : Int) := mm_nb hv (by omega)
  have hc : (nI v).toNatClampNeg = v := mm_ncl (by omega)
  have hX : 0 ≤ ((Int8.ofInt 10).toInt32 * nI i + nI v).toInt ∧ ((Int8.ofInt 10).toInt32 * nI i + nI v).toInt < ((200 : Nat) : Int) := by rw [lk_10]; exact mm_nb (by omega) (by omega)
  have hXc : ((Int8.ofInt 10).toInt32 * nI i + nI v).toNatClampNeg = 10 * i + v := by rw [lk_10]; exact mm_ncl (by omega)
  have hn : mm_a (lk_L h0 e c hd sv) 114 (nI v).toNatClampNeg = (c.2.2.2 v).2.2.1 := by rw [hc]; rfl
  refine mm_ev_in (Z := mm_m_Mo_keep) rfl rfl (Nat.le_of_ble_eq_true rfl) rfl ?_
  refine And.intro (k_80 J) (mm_rf (r_603 J) (And.intro (k_80 J) (mm_rf (r_614 J) (And.intro ⟨k_110 J, mm_inb 10 (n_110 J) hB⟩ (mm_rf (show mm_a (lk_L h0 e c hd sv) 110 (nI v).toNatClampNeg = (c.2.2.2 v).1 by rw [hc]; rfl) (And.intro ⟨k_105 J, mm_inb 200 (n_105 J) hX⟩ (And.intro (k_80 J) (mm_rf (r_604 J) (And.intro (k_80 J) (mm_rf (r_615 J) (And.intro ⟨k_111 J, mm_inb 10 (n_111 J) hB⟩ (mm_rf (show mm_a (lk_L h0 e c hd sv) 111 (nI v).toNatClampNeg = (c.2.2.2 v).2.1 by rw [hc]; rfl) (And.intro ⟨k_106 J, mm_inb 200 (n_106 J) hX⟩ (And.intro (k_80 J) (mm_rf (r_607 J) (And.intro (k_80 J) (mm_rf (r_618 J) (And.intro ⟨k_114 J, mm_inb 10 (n_114 J) hB⟩ (mm_rf hn (And.intro ⟨k_109 J, mm_inb 200 (n_109 J) hX, hb v⟩ (And.intro (k_80 J) (mm_rf (r_605 J) (And.intro (k_80 J) (mm_rf (r_616 J) (And.intro ⟨k_112 J, mm_inb 10 (n_112 J) hB⟩ (mm_rf (show mm_a (lk_L h0 e c hd sv) 112 (nI v).toNatClampNeg = (c.2.2.2 v).2.2.2.1 by rw [hc]; rfl) (And.intro ⟨k_107 J, mm_inb 200 (n_107 J) hX⟩ (And.intro (k_80 J) (mm_rf (r_606 J) (And.intro (fun c_63 => mm_go_from (mm_hM n_Mo_keep rfl) ?_) (fun c_63 => ?_)))))))))))))))))))))))))))))))
  · have q : (6 : Int) ≤ (nI v).toInt := c_63
    rw [mm_nt (by omega)] at q
    refine And.intro (k_80 J) (mm_rf (r_617 J) (And.intro ⟨k_113 J, mm_inb 10 (n_113 J) hB⟩ (mm_rf (show mm_a (lk_L h0 e c hd sv) 113 (nI v).toNatClampNeg = (c.2.2.2 v).2.2.2.2 by rw [hc]; rfl) (And.intro ⟨k_108 J, mm_inb 200 (n_108 J) hX⟩ (?_)))))
    have e1 : lk_kp v (c.2.2.2 v) = c.2.2.2 v := if_neg (by omega)
    rw [e1] at hQ
    refine mm_qq hQ rfl ?_
    show mm_sa (mm_sa (mm_sa (mm_sa (mm_sa (lk_L h0 e c hd sv) 105 ((Int8.ofInt 10).toInt32 * nI i + nI v).toNatClampNeg _) 106 ((Int8.ofInt 10).toInt32 * nI i + nI v).toNatClampNeg _) 109 ((Int8.ofInt 10).toInt32 * nI i + nI v).toNatClampNeg _) 107 ((Int8.ofInt 10).toInt32 * nI i + nI v).toNatClampNeg _) 108 ((Int8.ofInt 10).toInt32 * nI i + nI v).toNatClampNeg _ = _
    rw [hXc]
    exact lw_keep
  · have q : ¬ (6 : Int) ≤ (nI v).toInt := c_63
    rw [mm_nt (by omega)] at q
    refine mm_go_from (mm_hM n_Mo_keep rfl) (And.intro ⟨k_108 J, mm_inb 200 (n_108 J) hX⟩ (?_))
    have e1 : lk_kp v (c.2.2.2 v) = lk_wo (c.2.2.2 v) (-1) := if_pos (by omega)
    rw [e1] at hQ
    refine mm_qq hQ rfl ?_
    show mm_sa (mm_sa (mm_sa (mm_sa (mm_sa (lk_L h0 e c hd sv) 105 ((Int8.ofInt 10).toInt32 * nI i + nI v).toNatClampNeg _) 106 ((Int8.ofInt 10).toInt32 * nI i + nI v).toNatClampNeg _) 109 ((Int8.ofInt 10).toInt32 * nI i + nI v).toNatClampNeg _) 107 ((Int8.ofInt 10).toInt32 * nI i + nI v).toNatClampNeg _) 108 ((Int8.ofInt 10).toInt32 * nI i + nI v).toNatClampNeg _ = _
    rw [hXc]
    exact lw_keep
/-- what settle makes of a slot -/
def lk_sk (k : Int32) (x : mm_V) : mm_V := if x.1 = 4 then (if k = 0 then (0, -1, x.2.2) else (k, x.2)) else x
theorem lk_6 {H : Nat} : (Int8.ofInt 6).toInt32 + nI H = nI (6 + H) := nI_add 6 H
theorem l_Mo_settle {ro : mm_Ro} {d H : Nat} {h0 : mm_H} {e : Int32 × Int32 × Int32} {s f k : Int32} {g : Nat → mm_V} {hd : Nat → Int32 × Int32 × Int32} {sv : Nat → mm_V} {Q : Value → mm_H → Prop} (I : mm_SH h0) (hH : H ≤ 4) (hQ : Q .null (lk_L h0 e (nI H, -1, 0, lk_pre (fun v => lk_sk k (g v)) g (6 + H)) hd sv)) : ∀ (n j : Nat), j + n = 6 + H → mm_go ro d mm_m_Mo_settle 2 [.ref 80, .int k, .int (nI j)] [] (lk_L h0 e (nI H, s, f, lk_pre (fun v => lk_sk k (g v)) g j) hd sv) Q := by
  intro n
  induction n with
  | zero =>
    intro j hj
    have J : mm_SH (lk_L h0 e (nI H, s, f, lk_pre (fun v => lk_sk k (g v)) g j) hd sv) := I
    refine mm_go_from (mm_hM n_Mo_settle rfl) (And.intro (k_80 J) (mm_rf (show mm_i (lk_L h0 e (nI H, s, f, lk_pre (fun v => lk_sk k (g v)) g j) hd sv) 611 80 = nI H from rfl) (And.intro (fun c_10 => mm_go_from (mm_hM n_Mo_settle rfl) ?_) (fun c_10 => ?_))))
    · refine And.intro (k_80 J) (And.intro (k_80 J) ?_)
      refine mm_qq hQ rfl ?_
      rw [show j = 6 + H by omega]
      show mm_si (mm_si (lk_L h0 e (nI H, s, f, lk_pre (fun v => lk_sk k (g v)) g (6 + H)) hd sv) 612 80 (-1)) 613 80 0 = _
      rw [lw_612, lw_613]
    · have c : ¬ ((Int8.ofInt 6).toInt32 + nI H).toInt ≤ (nI j).toInt := c_10
      rw [lk_6, mm_nt (by omega), mm_nt (by omega)] at c
      omega
  | succ n ih =>
    intro j hj
    have J : mm_SH (lk_L h0 e (nI H, s, f, lk_pre (fun v => lk_sk k (g v)) g j) hd sv) := I
    have hB : 0 ≤ (nI j).toInt ∧ (nI j).toInt < ((10 : Nat) : Int) := mm_nb (by omega) (by omega)
    have hc : (nI j).toNatClampNeg = j := mm_ncl (by omega)
    have nx := ih (j + 1) (by omega)
    rw [nI_succ] at nx
    have ek : mm_a (lk_L h0 e (nI H, s, f, lk_pre (fun v => lk_sk k (g v)) g j) hd sv) 110 (nI j).toNatClampNeg = (g j).1 := by
      rw [hc]
      show (lk_pre (fun v => lk_sk k (g v)) g j j).1 = _
      rw [lk_pre_f (by omega)]
    refine mm_go_from (mm_hM n_Mo_settle rfl) (And.intro (k_80 J) (mm_rf (show mm_i (lk_L h0 e (nI H, s, f, lk_pre (fun v => lk_sk k (g v)) g j) hd sv) 611 80 = nI H from rfl) (And.intro (fun c_10 => ?_) (fun c_10 => ?_))))
    · have c : ((Int8.ofInt 6).toInt32 + nI H).toInt ≤ (nI j).toInt := c_10
      rw [lk_6, mm_nt (by omega), mm_nt (by omega)] at c
      omega
    · refine And.intro (k_80 J) (mm_rf (r_614 J) (And.intro ⟨k_110 J, mm_inb 10 (n_110 J) hB⟩ (mm_rf ek (And.intro (fun c_20 => mm_go_from (mm_hM n_Mo_settle rfl) ?_) (fun c_20 => mm_go_from (mm_hM n_Mo_settle rfl) ?_)))))
      · have q : (g j).1 = 4 := c_20
        refine And.intro (k_80 J) (mm_rf (r_614 J) (And.intro ⟨k_110 J, mm_inb 10 (n_110 J) hB⟩ (And.intro (fun c_34 => mm_go_from (mm_hM n_Mo_settle rfl) ?_) (fun c_34 => ?_))))
        · have k0 : ¬ k = 0 := c_34
          have e1 : lk_sk k (g j) = (k, (g j).2) := (if_pos q).trans (if_neg k0)
          rw [← lk_pre_up, e1] at nx
          have e2 : mm_sa (lk_L h0 e (nI H, s, f, lk_pre (fun v => lk_sk k (g v)) g j) hd sv) 110 (nI j).toNatClampNeg k = lk_L h0 e (nI H, s, f, lk_up (lk_pre (fun v => lk_sk k (g v)) g j) j (k, (g j).2)) hd sv := by
            rw [hc, lw_k]
            show lk_L h0 e (nI H, s, f, lk_up (lk_pre (fun v => lk_sk k (g v)) g j) j (k, (lk_pre (fun v => lk_sk k (g v)) g j j).2)) hd sv = _
            rw [lk_pre_f (by omega)]
          rw [← e2] at nx
          exact nx
        · have k0 : k = 0 := mm_no c_34
          refine And.intro (k_80 J) (mm_rf (r_615 J) (And.intro ⟨k_111 J, mm_inb 10 (n_111 J) hB⟩ ?_))
          have e1 : lk_sk k (g j) = (0, -1, (g j).2.2) := (if_pos q).trans (if_pos k0)
          rw [← lk_pre_up, e1] at nx
          have e2 : mm_sa (mm_sa (lk_L h0 e (nI H, s, f, lk_pre (fun v => lk_sk k (g v)) g j) hd sv) 110 (nI j).toNatClampNeg k) 111 (nI j).toNatClampNeg (-1) = lk_L h0 e (nI H, s, f, lk_up (lk_pre (fun v => lk_sk k (g v)) g j) j (0, -1, (g j).2.2)) hd sv := by
            rw [hc, lw_kc]
            show lk_L h0 e (nI H, s, f, lk_up (lk_pre (fun v => lk_sk k (g v)) g j) j (k, -1, (lk_pre (fun v => lk_sk k (g v)) g j j).2.2)) hd sv = _
            rw [lk_pre_f (by omega), k0]
          rw [← e2] at nx
          exact nx
      · have q : ¬ (g j).1 = 4 := c_20
        have e1 : lk_sk k (g j) = g j := if_neg q
        rw [lk_pre_same e1] at nx
        exact nx
theorem c_Mo_settle {ro : mm_Ro} {d H : Nat} {h0 : mm_H} {e : Int32 × Int32 × Int32} {s f k : Int32} {g : Nat → mm_V} {hd : Nat → Int32 × Int32 × Int32} {sv : Nat → mm_V} {Q : Value → mm_H → Prop} (I : mm_SH h0) (hH : H ≤ 4) (hQ : Q .null (lk_L h0 e (nI H, -1, 0, lk_pre (fun v => lk_sk k (g v)) g (6 + H)) hd sv)) : mm_ev ro (d + 1) n_Mo_settle [.ref 80, .int k] (lk_L h0 e (nI H, s, f, g) hd sv) Q := by
  refine mm_ev_at 2 (Z := mm_m_Mo_settle) rfl rfl (Nat.le_of_ble_eq_true rfl) rfl ?_
  have := l_Mo_settle (ro := ro) (d := d) (s := s) (f := f) I hH hQ (6 + H) 0 (Nat.zero_add _)
  rw [lk_pre_0] at this
  exact this
theorem l_Mo_take {ro : mm_Ro} {d i N : Nat} {h0 : mm_H} {e : Int32 × Int32 × Int32} {c : mm_F} {hd : Nat → Int32 × Int32 × Int32} {sv : Nat → mm_V} {Q : Value → mm_H → Prop} (I : mm_SH h0) (hi : i < 20) (hN : 6 + c.1 = nI N) (hN10 : N ≤ 10) (hb : lk_bn sv) (hQ : Q .null (lk_L h0 e (c.1, c.2.1, c.2.2.1, lk_pre (fun v => sv (10 * i + v)) c.2.2.2 N) hd sv)) : ∀ (n j : Nat) (w : Value), j + n = N → mm_go ro (d + 1) mm_m_Mo_take 32 [.ref 80, .int (nI i), .int (nI j), w] [] (lk_L h0 e (c.1, c.2.1, c.2.2.1, lk_pre (fun v => sv (10 * i + v)) c.2.2.2 j) hd sv) Q := by
  intro n
  induction n with
  | zero =>
    intro j w hj
    have J : mm_SH (lk_L h0 e (c.1, c.2.1, c.2.2.1, lk_pre (fun v => sv (10 * i + v)) c.2.2.2 j) hd sv) := I
    refine mm_go_from (mm_hM n_Mo_take rfl) (And.intro (k_80 J) (mm_rf (show mm_i (lk_L h0 e (c.1, c.2.1, c.2.2.1, lk_pre (fun v => sv (10 * i + v)) c.2.2.2 j) hd sv) 611 80 = c.1 from rfl) (And.intro (fun c_40 => mm_go_from (mm_hM n_Mo_take rfl) ?_) (fun c_40 => ?_))))
    · rw [show j = N by omega]
      exact hQ
    · have q : ¬ ((6 : Int32) + c.1).toInt ≤ (nI j).toInt := c_40
      rw [hN, mm_nt (by omega), mm_nt (by omega)] at q
      omega
  | succ n ih =>
    intro j w hj
    have J : mm_SH (lk_L h0 e (c.1, c.2.1, c.2.2.1, lk_pre (fun v => sv (10 * i + v)) c.2.2.2 j) hd sv) := I
    have hB : 0 ≤ (nI j).toInt ∧ (nI j).toInt < ((10 : Nat) : Int) := mm_nb (by omega) (by omega)
    have hc : (nI j).toNatClampNeg = j := mm_ncl (by omega)
    have hX : 0 ≤ ((Int8.ofInt 10).toInt32 * nI i + nI j).toInt ∧ ((Int8.ofInt 10).toInt32 * nI i + nI j).toInt < ((200 : Nat) : Int) := by rw [lk_10]; exact mm_nb (by omega) (by omega)
    have hXc : ((Int8.ofInt 10).toInt32 * nI i + nI j).toNatClampNeg = 10 * i + j := by rw [lk_10]; exact mm_ncl (by omega)
    have nx := ih (j + 1) (.int ((Int8.ofInt 10).toInt32 * nI i + nI j)) (by omega)
    rw [nI_succ] at nx
    refine mm_go_from (mm_hM n_Mo_take rfl) (And.intro (k_80 J) (mm_rf (show mm_i (lk_L h0 e (c.1, c.2.1, c.2.2.1, lk_pre (fun v => sv (10 * i + v)) c.2.2.2 j) hd sv) 611 80 = c.1 from rfl) (And.intro (fun c_40 => ?_) (fun c_40 => ?_))))
    · have q : ((6 : Int32) + c.1).toInt ≤ (nI j).toInt := c_40
      rw [hN, mm_nt (by omega), mm_nt (by omega)] at q
      omega
    · refine And.intro (k_80 J) (mm_rf (r_603 J) (And.intro ⟨k_105 J, mm_inb 200 (n_105 J) hX⟩ (mm_rf (b := (sv (10 * i + j)).1) (by rw [hXc]; rfl) (And.intro (k_80 J) (mm_rf (r_604 J) (And.intro ⟨k_106 J, mm_inb 200 (n_106 J) hX⟩ (mm_rf (b := (sv (10 * i + j)).2.1) (by rw [hXc]; rfl) (And.intro (k_80 J) (mm_rf (r_607 J) (And.intro ⟨k_109 J, mm_inb 200 (n_109 J) hX⟩ (mm_rf (b := (sv (10 * i + j)).2.2.1) (by rw [hXc]; rfl) (And.intro (k_80 J) (mm_rf (r_605 J) (And.intro ⟨k_107 J, mm_inb 200 (n_107 J) hX⟩ (mm_rf (b := (sv (10 * i + j)).2.2.2.1) (by rw [hXc]; rfl) (And.intro ⟨rfl, k_80 J⟩ (c_Mo_set I rfl (by omega) (hb _) ?_)))))))))))))))))
      refine And.intro (k_80 J) (mm_rf (r_617 J) (And.intro (k_80 J) (mm_rf (r_606 J) (And.intro ⟨k_108 J, mm_inb 200 (n_108 J) hX⟩ (mm_rf (b := (sv (10 * i + j)).2.2.2.2) (by rw [hXc]; rfl) (And.intro ⟨k_113 J, mm_inb 10 (n_113 J) hB⟩ ?_))))))
      rw [← lk_pre_up] at nx
      rw [hc, lw_o]
      show mm_go ro (d + 1) mm_m_Mo_take 32 _ [] (lk_L h0 e (c.1, c.2.1, c.2.2.1, lk_up (lk_up (lk_pre (fun v => sv (10 * i + v)) c.2.2.2 j) j _) j (lk_wo (lk_up (lk_pre (fun v => sv (10 * i + v)) c.2.2.2 j) j _ j) _)) hd sv) Q
      rw [lk_up_t, lk_up_up]
      exact nx
theorem c_Mo_take {ro : mm_Ro} {d i N : Nat} {h0 : mm_H} {e : Int32 × Int32 × Int32} {c : mm_F} {hd : Nat → Int32 × Int32 × Int32} {sv : Nat → mm_V} {Q : Value → mm_H → Prop} (I : mm_SH h0) (hi : i < 20) (hN : 6 + (hd i).1 = nI N) (hN10 : N ≤ 10) (hb : lk_bn sv) (hQ : Q .null (lk_L h0 e ((hd i).1, (hd i).2.1, (hd i).2.2, lk_pre (fun v => sv (10 * i + v)) c.2.2.2 N) hd sv)) : mm_ev ro (d + 2) n_Mo_take [.ref 80, .int (nI i)] (lk_L h0 e c hd sv) Q := by
  have J : mm_SH (lk_L h0 e c hd sv) := I
  have hB : 0 ≤ (nI i).toInt ∧ (nI i).toInt < ((20 : Nat) : Int) := mm_nb hi (by omega)
  have hc : (nI i).toNatClampNeg = i := mm_ncl (by omega)
  refine mm_ev_at 32 (Z := mm_m_Mo_take) rfl rfl (Nat.le_of_ble_eq_true rfl) rfl ?_
  refine And.intro (k_80 J) (mm_rf (r_600 J) (And.intro ⟨k_102 J, mm_inb 20 (n_102 J) hB⟩ (mm_rf (b := (hd i).1) (by rw [hc]; rfl) (And.intro (k_80 J) (And.intro (k_80 J) (mm_rf (r_601 J) (And.intro ⟨k_103 J, mm_inb 20 (n_103 J) hB⟩ (mm_rf (b := (hd i).2.1) (by rw [hc]; rfl) (And.intro (k_80 J) (And.intro (k_80 J) (mm_rf (r_602 J) (And.intro ⟨k_104 J, mm_inb 20 (n_104 J) hB⟩ (mm_rf (b := (hd i).2.2) (by rw [hc]; rfl) (And.intro (k_80 J) (?_)))))))))))))))
  have := l_Mo_take (ro := ro) (d := d) (c := ((hd i).1, (hd i).2.1, (hd i).2.2, c.2.2.2)) I hi hN hN10 hb hQ N 0 .null (Nat.zero_add _)
  rw [lk_pre_0] at this
  rw [lw_611, lw_612, lw_613]
  exact this
end
