section
-- ===== PART A: goes FIRST, ahead of the names: the tables' words, and 'selects' of the private methods out of them =====
/-- a private method of a class that the tables say can be made, by its rows of tables_1 -/
def lw_okq (q : MethodName × Nat) : Prop := (q.1.cls ≠ "java/lang/invoke/MethodHandle" ∧ q.1.cls ≠ "java/lang/invoke/VarHandle") ∧ Cond.instantiable q.1.cls q.2 ∈ tables_1 ∧ Cond.privateMethod q.1 ∈ tables_1 ∧ Cond.instanceMethod q.1 ∈ tables_1
theorem lw_p0 : lw_okq (⟨"HarpFences", "beginAnew", "()V"⟩, 11) := ⟨⟨by decide +kernel, by decide +kernel⟩, List.mem_of_getElem? (i := 16) (by decide +kernel), List.mem_of_getElem? (i := 326) (by decide +kernel), List.mem_of_getElem? (i := 327) (by decide +kernel)⟩
theorem lw_p1 : lw_okq (⟨"HarpFences$Text", "step", "()V"⟩, 7) := ⟨⟨by decide +kernel, by decide +kernel⟩, List.mem_of_getElem? (i := 24) (by decide +kernel), List.mem_of_getElem? (i := 392) (by decide +kernel), List.mem_of_getElem? (i := 393) (by decide +kernel)⟩
theorem lw_p2 : lw_okq (⟨"HarpFences$Text", "stepLetters", "()V"⟩, 7) := ⟨⟨by decide +kernel, by decide +kernel⟩, List.mem_of_getElem? (i := 24) (by decide +kernel), List.mem_of_getElem? (i := 399) (by decide +kernel), List.mem_of_getElem? (i := 400) (by decide +kernel)⟩
theorem lw_p3 : lw_okq (⟨"HarpFences$Text", "stepNumber", "()V"⟩, 7) := ⟨⟨by decide +kernel, by decide +kernel⟩, List.mem_of_getElem? (i := 24) (by decide +kernel), List.mem_of_getElem? (i := 406) (by decide +kernel), List.mem_of_getElem? (i := 407) (by decide +kernel)⟩
theorem lw_p4 : lw_okq (⟨"HarpFences$Text", "tellsFields", "(LHarpFences$Land;)Z"⟩, 7) := ⟨⟨by decide +kernel, by decide +kernel⟩, List.mem_of_getElem? (i := 24) (by decide +kernel), List.mem_of_getElem? (i := 413) (by decide +kernel), List.mem_of_getElem? (i := 414) (by decide +kernel)⟩
theorem lw_p5 : lw_okq (⟨"HarpFences$Text", "number", "(II)Z"⟩, 7) := ⟨⟨by decide +kernel, by decide +kernel⟩, List.mem_of_getElem? (i := 24) (by decide +kernel), List.mem_of_getElem? (i := 417) (by decide +kernel), List.mem_of_getElem? (i := 418) (by decide +kernel)⟩
theorem lw_p6 : lw_okq (⟨"HarpFences$Text", "tellsFence", "(LHarpFences$Land;)Z"⟩, 7) := ⟨⟨by decide +kernel, by decide +kernel⟩, List.mem_of_getElem? (i := 24) (by decide +kernel), List.mem_of_getElem? (i := 421) (by decide +kernel), List.mem_of_getElem? (i := 422) (by decide +kernel)⟩
theorem lw_p7 : lw_okq (⟨"HarpFences$Text", "tellsKind", "(LHarpFences$Land;)Z"⟩, 7) := ⟨⟨by decide +kernel, by decide +kernel⟩, List.mem_of_getElem? (i := 24) (by decide +kernel), List.mem_of_getElem? (i := 425) (by decide +kernel), List.mem_of_getElem? (i := 426) (by decide +kernel)⟩
theorem lw_p8 : lw_okq (⟨"HarpFences$Text", "tellsBeast", "(LHarpFences$Land;)Z"⟩, 7) := ⟨⟨by decide +kernel, by decide +kernel⟩, List.mem_of_getElem? (i := 24) (by decide +kernel), List.mem_of_getElem? (i := 429) (by decide +kernel), List.mem_of_getElem? (i := 430) (by decide +kernel)⟩
theorem lw_p9 : lw_okq (⟨"HarpFences$Text", "tellsWet", "(LHarpFences$Land;)Z"⟩, 7) := ⟨⟨by decide +kernel, by decide +kernel⟩, List.mem_of_getElem? (i := 24) (by decide +kernel), List.mem_of_getElem? (i := 433) (by decide +kernel), List.mem_of_getElem? (i := 434) (by decide +kernel)⟩
theorem lw_p10 : lw_okq (⟨"HarpFences$Text", "stops", "()Z"⟩, 7) := ⟨⟨by decide +kernel, by decide +kernel⟩, List.mem_of_getElem? (i := 24) (by decide +kernel), List.mem_of_getElem? (i := 437) (by decide +kernel), List.mem_of_getElem? (i := 438) (by decide +kernel)⟩
theorem lw_p11 : lw_okq (⟨"HarpFences", "isFence", "(I)Z"⟩, 11) := ⟨⟨by decide +kernel, by decide +kernel⟩, List.mem_of_getElem? (i := 16) (by decide +kernel), List.mem_of_getElem? (i := 450) (by decide +kernel), List.mem_of_getElem? (i := 451) (by decide +kernel)⟩
theorem lw_p12 : lw_okq (⟨"HarpFences", "isKind", "(I)Z"⟩, 11) := ⟨⟨by decide +kernel, by decide +kernel⟩, List.mem_of_getElem? (i := 16) (by decide +kernel), List.mem_of_getElem? (i := 458) (by decide +kernel), List.mem_of_getElem? (i := 459) (by decide +kernel)⟩
theorem lw_p13 : lw_okq (⟨"HarpFences", "isBeast", "(I)Z"⟩, 11) := ⟨⟨by decide +kernel, by decide +kernel⟩, List.mem_of_getElem? (i := 16) (by decide +kernel), List.mem_of_getElem? (i := 467) (by decide +kernel), List.mem_of_getElem? (i := 468) (by decide +kernel)⟩
theorem lw_p14 : lw_okq (⟨"HarpFences$Choices", "partnerAlikes", "()V"⟩, 5) := ⟨⟨by decide +kernel, by decide +kernel⟩, List.mem_of_getElem? (i := 277) (by decide +kernel), List.mem_of_getElem? (i := 552) (by decide +kernel), List.mem_of_getElem? (i := 553) (by decide +kernel)⟩
theorem lw_p15 : lw_okq (⟨"HarpFences$Choices", "areAlike", "(II)Z"⟩, 5) := ⟨⟨by decide +kernel, by decide +kernel⟩, List.mem_of_getElem? (i := 277) (by decide +kernel), List.mem_of_getElem? (i := 556) (by decide +kernel), List.mem_of_getElem? (i := 557) (by decide +kernel)⟩
def lw_privs_1 : List (MethodName × Nat) := [(⟨"HarpFences", "beginAnew", "()V"⟩, 11), (⟨"HarpFences$Text", "step", "()V"⟩, 7), (⟨"HarpFences$Text", "stepLetters", "()V"⟩, 7), (⟨"HarpFences$Text", "stepNumber", "()V"⟩, 7), (⟨"HarpFences$Text", "tellsFields", "(LHarpFences$Land;)Z"⟩, 7), (⟨"HarpFences$Text", "number", "(II)Z"⟩, 7), (⟨"HarpFences$Text", "tellsFence", "(LHarpFences$Land;)Z"⟩, 7), (⟨"HarpFences$Text", "tellsKind", "(LHarpFences$Land;)Z"⟩, 7), (⟨"HarpFences$Text", "tellsBeast", "(LHarpFences$Land;)Z"⟩, 7), (⟨"HarpFences$Text", "tellsWet", "(LHarpFences$Land;)Z"⟩, 7), (⟨"HarpFences$Text", "stops", "()Z"⟩, 7), (⟨"HarpFences", "isFence", "(I)Z"⟩, 11), (⟨"HarpFences", "isKind", "(I)Z"⟩, 11), (⟨"HarpFences", "isBeast", "(I)Z"⟩, 11), (⟨"HarpFences$Choices", "partnerAlikes", "()V"⟩, 5), (⟨"HarpFences$Choices", "areAlike", "(II)Z"⟩, 5)]
theorem lw_r1 : ∀ q ∈ lw_privs_1, lw_okq q := List.forall_mem_cons.mpr ⟨lw_p0, List.forall_mem_cons.mpr ⟨lw_p1, List.forall_mem_cons.mpr ⟨lw_p2, List.forall_mem_cons.mpr ⟨lw_p3, List.forall_mem_cons.mpr ⟨lw_p4, List.forall_mem_cons.mpr ⟨lw_p5, List.forall_mem_cons.mpr ⟨lw_p6, List.forall_mem_cons.mpr ⟨lw_p7, List.forall_mem_cons.mpr ⟨lw_p8, List.forall_mem_cons.mpr ⟨lw_p9, List.forall_mem_cons.mpr ⟨lw_p10, List.forall_mem_cons.mpr ⟨lw_p11, List.forall_mem_cons.mpr ⟨lw_p12, List.forall_mem_cons.mpr ⟨lw_p13, List.forall_mem_cons.mpr ⟨lw_p14, List.forall_mem_cons.mpr ⟨lw_p15, fun _ h => absurd h List.not_mem_nil⟩⟩⟩⟩⟩⟩⟩⟩⟩⟩⟩⟩⟩⟩⟩⟩
theorem lw_p16 : lw_okq (⟨"HarpFences$Choices", "fewestOfEachTwo", "(I)I"⟩, 5) := ⟨⟨by decide +kernel, by decide +kernel⟩, List.mem_of_getElem? (i := 277) (by decide +kernel), List.mem_of_getElem? (i := 570) (by decide +kernel), List.mem_of_getElem? (i := 571) (by decide +kernel)⟩
theorem lw_p17 : lw_okq (⟨"HarpFences$Choices", "hasOneOfEachTwo", "(II)Z"⟩, 5) := ⟨⟨by decide +kernel, by decide +kernel⟩, List.mem_of_getElem? (i := 277) (by decide +kernel), List.mem_of_getElem? (i := 574) (by decide +kernel), List.mem_of_getElem? (i := 575) (by decide +kernel)⟩
theorem lw_p18 : lw_okq (⟨"HarpFences", "isField", "(I)Z"⟩, 11) := ⟨⟨by decide +kernel, by decide +kernel⟩, List.mem_of_getElem? (i := 16) (by decide +kernel), List.mem_of_getElem? (i := 612) (by decide +kernel), List.mem_of_getElem? (i := 613) (by decide +kernel)⟩
theorem lw_p19 : lw_okq (⟨"HarpFences$Hearing", "crossAll", "(II)V"⟩, 7) := ⟨⟨by decide +kernel, by decide +kernel⟩, List.mem_of_getElem? (i := 223) (by decide +kernel), List.mem_of_getElem? (i := 620) (by decide +kernel), List.mem_of_getElem? (i := 621) (by decide +kernel)⟩
theorem lw_p20 : lw_okq (⟨"HarpFences$Hearing", "endsBehind", "(III)I"⟩, 7) := ⟨⟨by decide +kernel, by decide +kernel⟩, List.mem_of_getElem? (i := 223) (by decide +kernel), List.mem_of_getElem? (i := 634) (by decide +kernel), List.mem_of_getElem? (i := 635) (by decide +kernel)⟩
theorem lw_p21 : lw_okq (⟨"HarpFences$Hearing", "greatestCrowd", "(I)I"⟩, 7) := ⟨⟨by decide +kernel, by decide +kernel⟩, List.mem_of_getElem? (i := 223) (by decide +kernel), List.mem_of_getElem? (i := 655) (by decide +kernel), List.mem_of_getElem? (i := 656) (by decide +kernel)⟩
theorem lw_p22 : lw_okq (⟨"HarpFences$Hearing", "comesTo", "(II)Z"⟩, 7) := ⟨⟨by decide +kernel, by decide +kernel⟩, List.mem_of_getElem? (i := 223) (by decide +kernel), List.mem_of_getElem? (i := 659) (by decide +kernel), List.mem_of_getElem? (i := 660) (by decide +kernel)⟩
theorem lw_p23 : lw_okq (⟨"HarpFences$Paths", "measure", "(II)V"⟩, 6) := ⟨⟨by decide +kernel, by decide +kernel⟩, List.mem_of_getElem? (i := 252) (by decide +kernel), List.mem_of_getElem? (i := 673) (by decide +kernel), List.mem_of_getElem? (i := 674) (by decide +kernel)⟩
theorem lw_p24 : lw_okq (⟨"HarpFences$Paths", "costOf", "(II)I"⟩, 6) := ⟨⟨by decide +kernel, by decide +kernel⟩, List.mem_of_getElem? (i := 252) (by decide +kernel), List.mem_of_getElem? (i := 678) (by decide +kernel), List.mem_of_getElem? (i := 679) (by decide +kernel)⟩
theorem lw_p25 : lw_okq (⟨"HarpFences$Farm", "isStringAt", "(II)Z"⟩, 2) := ⟨⟨by decide +kernel, by decide +kernel⟩, List.mem_of_getElem? (i := 183) (by decide +kernel), List.mem_of_getElem? (i := 702) (by decide +kernel), List.mem_of_getElem? (i := 703) (by decide +kernel)⟩
theorem lw_p26 : lw_okq (⟨"HarpFences$Choices", "measureHerds", "()V"⟩, 5) := ⟨⟨by decide +kernel, by decide +kernel⟩, List.mem_of_getElem? (i := 277) (by decide +kernel), List.mem_of_getElem? (i := 717) (by decide +kernel), List.mem_of_getElem? (i := 718) (by decide +kernel)⟩
theorem lw_p27 : lw_okq (⟨"HarpFences$Choices", "milkWith", "(III)I"⟩, 5) := ⟨⟨by decide +kernel, by decide +kernel⟩, List.mem_of_getElem? (i := 277) (by decide +kernel), List.mem_of_getElem? (i := 722) (by decide +kernel), List.mem_of_getElem? (i := 723) (by decide +kernel)⟩
theorem lw_p28 : lw_okq (⟨"HarpFences$Choices", "bestField", "(II)I"⟩, 5) := ⟨⟨by decide +kernel, by decide +kernel⟩, List.mem_of_getElem? (i := 277) (by decide +kernel), List.mem_of_getElem? (i := 730) (by decide +kernel), List.mem_of_getElem? (i := 731) (by decide +kernel)⟩
theorem lw_p29 : lw_okq (⟨"HarpFences$Paths", "snappedFences", "(I)I"⟩, 6) := ⟨⟨by decide +kernel, by decide +kernel⟩, List.mem_of_getElem? (i := 252) (by decide +kernel), List.mem_of_getElem? (i := 750) (by decide +kernel), List.mem_of_getElem? (i := 751) (by decide +kernel)⟩
theorem lw_p30 : lw_okq (⟨"HarpFences$Paths", "reaches", "(III)Z"⟩, 6) := ⟨⟨by decide +kernel, by decide +kernel⟩, List.mem_of_getElem? (i := 252) (by decide +kernel), List.mem_of_getElem? (i := 754) (by decide +kernel), List.mem_of_getElem? (i := 755) (by decide +kernel)⟩
theorem lw_p31 : lw_okq (⟨"HarpFences", "markString", "(I)I"⟩, 11) := ⟨⟨by decide +kernel, by decide +kernel⟩, List.mem_of_getElem? (i := 16) (by decide +kernel), List.mem_of_getElem? (i := 767) (by decide +kernel), List.mem_of_getElem? (i := 768) (by decide +kernel)⟩
def lw_privs_2 : List (MethodName × Nat) := [(⟨"HarpFences$Choices", "fewestOfEachTwo", "(I)I"⟩, 5), (⟨"HarpFences$Choices", "hasOneOfEachTwo", "(II)Z"⟩, 5), (⟨"HarpFences", "isField", "(I)Z"⟩, 11), (⟨"HarpFences$Hearing", "crossAll", "(II)V"⟩, 7), (⟨"HarpFences$Hearing", "endsBehind", "(III)I"⟩, 7), (⟨"HarpFences$Hearing", "greatestCrowd", "(I)I"⟩, 7), (⟨"HarpFences$Hearing", "comesTo", "(II)Z"⟩, 7), (⟨"HarpFences$Paths", "measure", "(II)V"⟩, 6), (⟨"HarpFences$Paths", "costOf", "(II)I"⟩, 6), (⟨"HarpFences$Farm", "isStringAt", "(II)Z"⟩, 2), (⟨"HarpFences$Choices", "measureHerds", "()V"⟩, 5), (⟨"HarpFences$Choices", "milkWith", "(III)I"⟩, 5), (⟨"HarpFences$Choices", "bestField", "(II)I"⟩, 5), (⟨"HarpFences$Paths", "snappedFences", "(I)I"⟩, 6), (⟨"HarpFences$Paths", "reaches", "(III)Z"⟩, 6), (⟨"HarpFences", "markString", "(I)I"⟩, 11)]
theorem lw_r2 : ∀ q ∈ lw_privs_2, lw_okq q := List.forall_mem_cons.mpr ⟨lw_p16, List.forall_mem_cons.mpr ⟨lw_p17, List.forall_mem_cons.mpr ⟨lw_p18, List.forall_mem_cons.mpr ⟨lw_p19, List.forall_mem_cons.mpr ⟨lw_p20, List.forall_mem_cons.mpr ⟨lw_p21, List.forall_mem_cons.mpr ⟨lw_p22, List.forall_mem_cons.mpr ⟨lw_p23, List.forall_mem_cons.mpr ⟨lw_p24, List.forall_mem_cons.mpr ⟨lw_p25, List.forall_mem_cons.mpr ⟨lw_p26, List.forall_mem_cons.mpr ⟨lw_p27, List.forall_mem_cons.mpr ⟨lw_p28, List.forall_mem_cons.mpr ⟨lw_p29, List.forall_mem_cons.mpr ⟨lw_p30, List.forall_mem_cons.mpr ⟨lw_p31, fun _ h => absurd h List.not_mem_nil⟩⟩⟩⟩⟩⟩⟩⟩⟩⟩⟩⟩⟩⟩⟩⟩
theorem lw_p32 : lw_okq (⟨"HarpFences", "markBass", "(I)I"⟩, 11) := ⟨⟨by decide +kernel, by decide +kernel⟩, List.mem_of_getElem? (i := 16) (by decide +kernel), List.mem_of_getElem? (i := 771) (by decide +kernel), List.mem_of_getElem? (i := 772) (by decide +kernel)⟩
theorem lw_p33 : lw_okq (⟨"HarpFences", "markTreble", "(I)I"⟩, 11) := ⟨⟨by decide +kernel, by decide +kernel⟩, List.mem_of_getElem? (i := 16) (by decide +kernel), List.mem_of_getElem? (i := 776) (by decide +kernel), List.mem_of_getElem? (i := 777) (by decide +kernel)⟩
theorem lw_p34 : lw_okq (⟨"HarpFences", "markBull", "(I)I"⟩, 11) := ⟨⟨by decide +kernel, by decide +kernel⟩, List.mem_of_getElem? (i := 16) (by decide +kernel), List.mem_of_getElem? (i := 781) (by decide +kernel), List.mem_of_getElem? (i := 782) (by decide +kernel)⟩
theorem lw_p35 : lw_okq (⟨"HarpFences", "markLark", "(I)I"⟩, 11) := ⟨⟨by decide +kernel, by decide +kernel⟩, List.mem_of_getElem? (i := 16) (by decide +kernel), List.mem_of_getElem? (i := 786) (by decide +kernel), List.mem_of_getElem? (i := 787) (by decide +kernel)⟩
theorem lw_p36 : lw_okq (⟨"HarpFences", "markPedal", "(I)I"⟩, 11) := ⟨⟨by decide +kernel, by decide +kernel⟩, List.mem_of_getElem? (i := 16) (by decide +kernel), List.mem_of_getElem? (i := 791) (by decide +kernel), List.mem_of_getElem? (i := 792) (by decide +kernel)⟩
theorem lw_p37 : lw_okq (⟨"HarpFencesModel", "read", "()V"⟩, 32) := ⟨⟨by decide +kernel, by decide +kernel⟩, List.mem_of_getElem? (i := 828) (by decide +kernel), List.mem_of_getElem? (i := 948) (by decide +kernel), List.mem_of_getElem? (i := 949) (by decide +kernel)⟩
theorem lw_p38 : lw_okq (⟨"HarpFencesModel", "step", "()V"⟩, 32) := ⟨⟨by decide +kernel, by decide +kernel⟩, List.mem_of_getElem? (i := 828) (by decide +kernel), List.mem_of_getElem? (i := 952) (by decide +kernel), List.mem_of_getElem? (i := 953) (by decide +kernel)⟩
theorem lw_p39 : lw_okq (⟨"HarpFencesModel", "here", "()I"⟩, 32) := ⟨⟨by decide +kernel, by decide +kernel⟩, List.mem_of_getElem? (i := 828) (by decide +kernel), List.mem_of_getElem? (i := 956) (by decide +kernel), List.mem_of_getElem? (i := 957) (by decide +kernel)⟩
theorem lw_p40 : lw_okq (⟨"HarpFencesModel", "may", "(IZ)Z"⟩, 32) := ⟨⟨by decide +kernel, by decide +kernel⟩, List.mem_of_getElem? (i := 828) (by decide +kernel), List.mem_of_getElem? (i := 960) (by decide +kernel), List.mem_of_getElem? (i := 961) (by decide +kernel)⟩
theorem lw_p41 : lw_okq (⟨"HarpFencesModel", "due", "(Z)V"⟩, 32) := ⟨⟨by decide +kernel, by decide +kernel⟩, List.mem_of_getElem? (i := 828) (by decide +kernel), List.mem_of_getElem? (i := 964) (by decide +kernel), List.mem_of_getElem? (i := 965) (by decide +kernel)⟩
theorem lw_p42 : lw_okq (⟨"HarpFencesModel", "item", "(I)V"⟩, 32) := ⟨⟨by decide +kernel, by decide +kernel⟩, List.mem_of_getElem? (i := 828) (by decide +kernel), List.mem_of_getElem? (i := 968) (by decide +kernel), List.mem_of_getElem? (i := 969) (by decide +kernel)⟩
theorem lw_p43 : lw_okq (⟨"HarpFencesModel", "number", "(II)I"⟩, 32) := ⟨⟨by decide +kernel, by decide +kernel⟩, List.mem_of_getElem? (i := 828) (by decide +kernel), List.mem_of_getElem? (i := 972) (by decide +kernel), List.mem_of_getElem? (i := 973) (by decide +kernel)⟩
theorem lw_p44 : lw_okq (⟨"HarpFencesModel", "isFence", "(I)Z"⟩, 32) := ⟨⟨by decide +kernel, by decide +kernel⟩, List.mem_of_getElem? (i := 828) (by decide +kernel), List.mem_of_getElem? (i := 980) (by decide +kernel), List.mem_of_getElem? (i := 981) (by decide +kernel)⟩
theorem lw_p45 : lw_okq (⟨"HarpFencesModel", "isKind", "(I)Z"⟩, 32) := ⟨⟨by decide +kernel, by decide +kernel⟩, List.mem_of_getElem? (i := 828) (by decide +kernel), List.mem_of_getElem? (i := 991) (by decide +kernel), List.mem_of_getElem? (i := 992) (by decide +kernel)⟩
theorem lw_p46 : lw_okq (⟨"HarpFencesModel", "isBeast", "(I)Z"⟩, 32) := ⟨⟨by decide +kernel, by decide +kernel⟩, List.mem_of_getElem? (i := 828) (by decide +kernel), List.mem_of_getElem? (i := 1000) (by decide +kernel), List.mem_of_getElem? (i := 1001) (by decide +kernel)⟩
theorem lw_p47 : lw_okq (⟨"HarpFencesModel", "soundOf", "(II)I"⟩, 32) := ⟨⟨by decide +kernel, by decide +kernel⟩, List.mem_of_getElem? (i := 828) (by decide +kernel), List.mem_of_getElem? (i := 1008) (by decide +kernel), List.mem_of_getElem? (i := 1009) (by decide +kernel)⟩
def lw_privs_3 : List (MethodName × Nat) := [(⟨"HarpFences", "markBass", "(I)I"⟩, 11), (⟨"HarpFences", "markTreble", "(I)I"⟩, 11), (⟨"HarpFences", "markBull", "(I)I"⟩, 11), (⟨"HarpFences", "markLark", "(I)I"⟩, 11), (⟨"HarpFences", "markPedal", "(I)I"⟩, 11), (⟨"HarpFencesModel", "read", "()V"⟩, 32), (⟨"HarpFencesModel", "step", "()V"⟩, 32), (⟨"HarpFencesModel", "here", "()I"⟩, 32), (⟨"HarpFencesModel", "may", "(IZ)Z"⟩, 32), (⟨"HarpFencesModel", "due", "(Z)V"⟩, 32), (⟨"HarpFencesModel", "item", "(I)V"⟩, 32), (⟨"HarpFencesModel", "number", "(II)I"⟩, 32), (⟨"HarpFencesModel", "isFence", "(I)Z"⟩, 32), (⟨"HarpFencesModel", "isKind", "(I)Z"⟩, 32), (⟨"HarpFencesModel", "isBeast", "(I)Z"⟩, 32), (⟨"HarpFencesModel", "soundOf", "(II)I"⟩, 32)]
theorem lw_r3 : ∀ q ∈ lw_privs_3, lw_okq q := List.forall_mem_cons.mpr ⟨lw_p32, List.forall_mem_cons.mpr ⟨lw_p33, List.forall_mem_cons.mpr ⟨lw_p34, List.forall_mem_cons.mpr ⟨lw_p35, List.forall_mem_cons.mpr ⟨lw_p36, List.forall_mem_cons.mpr ⟨lw_p37, List.forall_mem_cons.mpr ⟨lw_p38, List.forall_mem_cons.mpr ⟨lw_p39, List.forall_mem_cons.mpr ⟨lw_p40, List.forall_mem_cons.mpr ⟨lw_p41, List.forall_mem_cons.mpr ⟨lw_p42, List.forall_mem_cons.mpr ⟨lw_p43, List.forall_mem_cons.mpr ⟨lw_p44, List.forall_mem_cons.mpr ⟨lw_p45, List.forall_mem_cons.mpr ⟨lw_p46, List.forall_mem_cons.mpr ⟨lw_p47, fun _ h => absurd h List.not_mem_nil⟩⟩⟩⟩⟩⟩⟩⟩⟩⟩⟩⟩⟩⟩⟩⟩
theorem lw_p48 : lw_okq (⟨"HarpFencesModel", "isAt", "(II)Z"⟩, 32) := ⟨⟨by decide +kernel, by decide +kernel⟩, List.mem_of_getElem? (i := 828) (by decide +kernel), List.mem_of_getElem? (i := 1016) (by decide +kernel), List.mem_of_getElem? (i := 1017) (by decide +kernel)⟩
theorem lw_p49 : lw_okq (⟨"HarpFencesModel", "know", "()V"⟩, 32) := ⟨⟨by decide +kernel, by decide +kernel⟩, List.mem_of_getElem? (i := 828) (by decide +kernel), List.mem_of_getElem? (i := 1020) (by decide +kernel), List.mem_of_getElem? (i := 1021) (by decide +kernel)⟩
theorem lw_p50 : lw_okq (⟨"HarpFencesModel", "across", "(II)I"⟩, 32) := ⟨⟨by decide +kernel, by decide +kernel⟩, List.mem_of_getElem? (i := 828) (by decide +kernel), List.mem_of_getElem? (i := 1024) (by decide +kernel), List.mem_of_getElem? (i := 1025) (by decide +kernel)⟩
theorem lw_p51 : lw_okq (⟨"HarpFencesModel", "sing", "(I)V"⟩, 32) := ⟨⟨by decide +kernel, by decide +kernel⟩, List.mem_of_getElem? (i := 828) (by decide +kernel), List.mem_of_getElem? (i := 1028) (by decide +kernel), List.mem_of_getElem? (i := 1029) (by decide +kernel)⟩
theorem lw_p52 : lw_okq (⟨"HarpFencesModel", "alike", "()I"⟩, 32) := ⟨⟨by decide +kernel, by decide +kernel⟩, List.mem_of_getElem? (i := 828) (by decide +kernel), List.mem_of_getElem? (i := 1062) (by decide +kernel), List.mem_of_getElem? (i := 1063) (by decide +kernel)⟩
theorem lw_p53 : lw_okq (⟨"HarpFencesModel", "areAlike", "(II)Z"⟩, 32) := ⟨⟨by decide +kernel, by decide +kernel⟩, List.mem_of_getElem? (i := 828) (by decide +kernel), List.mem_of_getElem? (i := 1066) (by decide +kernel), List.mem_of_getElem? (i := 1067) (by decide +kernel)⟩
theorem lw_p54 : lw_okq (⟨"HarpFencesModel", "isString", "(I)Z"⟩, 32) := ⟨⟨by decide +kernel, by decide +kernel⟩, List.mem_of_getElem? (i := 828) (by decide +kernel), List.mem_of_getElem? (i := 1070) (by decide +kernel), List.mem_of_getElem? (i := 1071) (by decide +kernel)⟩
theorem lw_p55 : lw_okq (⟨"HarpFencesModel", "fewest", "(I)I"⟩, 32) := ⟨⟨by decide +kernel, by decide +kernel⟩, List.mem_of_getElem? (i := 828) (by decide +kernel), List.mem_of_getElem? (i := 1074) (by decide +kernel), List.mem_of_getElem? (i := 1075) (by decide +kernel)⟩
theorem lw_p56 : lw_okq (⟨"HarpFencesModel", "areApart", "(I)Z"⟩, 32) := ⟨⟨by decide +kernel, by decide +kernel⟩, List.mem_of_getElem? (i := 828) (by decide +kernel), List.mem_of_getElem? (i := 1078) (by decide +kernel), List.mem_of_getElem? (i := 1079) (by decide +kernel)⟩
theorem lw_p57 : lw_okq (⟨"HarpFencesModel", "areHeard", "(I)Z"⟩, 32) := ⟨⟨by decide +kernel, by decide +kernel⟩, List.mem_of_getElem? (i := 828) (by decide +kernel), List.mem_of_getElem? (i := 1082) (by decide +kernel), List.mem_of_getElem? (i := 1083) (by decide +kernel)⟩
theorem lw_p58 : lw_okq (⟨"HarpFencesModel", "isField", "(I)Z"⟩, 32) := ⟨⟨by decide +kernel, by decide +kernel⟩, List.mem_of_getElem? (i := 828) (by decide +kernel), List.mem_of_getElem? (i := 1106) (by decide +kernel), List.mem_of_getElem? (i := 1107) (by decide +kernel)⟩
theorem lw_p59 : lw_okq (⟨"HarpFencesModel", "endsOf", "(I)I"⟩, 32) := ⟨⟨by decide +kernel, by decide +kernel⟩, List.mem_of_getElem? (i := 828) (by decide +kernel), List.mem_of_getElem? (i := 1115) (by decide +kernel), List.mem_of_getElem? (i := 1116) (by decide +kernel)⟩
theorem lw_p60 : lw_okq (⟨"HarpFencesModel", "comesTo", "(II)Z"⟩, 32) := ⟨⟨by decide +kernel, by decide +kernel⟩, List.mem_of_getElem? (i := 828) (by decide +kernel), List.mem_of_getElem? (i := 1127) (by decide +kernel), List.mem_of_getElem? (i := 1128) (by decide +kernel)⟩
theorem lw_p61 : lw_okq (⟨"HarpFencesModel", "measure", "(II)V"⟩, 32) := ⟨⟨by decide +kernel, by decide +kernel⟩, List.mem_of_getElem? (i := 828) (by decide +kernel), List.mem_of_getElem? (i := 1135) (by decide +kernel), List.mem_of_getElem? (i := 1136) (by decide +kernel)⟩
theorem lw_p62 : lw_okq (⟨"HarpFencesModel", "costOf", "(II)I"⟩, 32) := ⟨⟨by decide +kernel, by decide +kernel⟩, List.mem_of_getElem? (i := 828) (by decide +kernel), List.mem_of_getElem? (i := 1140) (by decide +kernel), List.mem_of_getElem? (i := 1141) (by decide +kernel)⟩
theorem lw_p63 : lw_okq (⟨"HarpFencesModel", "fifthsOf", "(I)I"⟩, 32) := ⟨⟨by decide +kernel, by decide +kernel⟩, List.mem_of_getElem? (i := 828) (by decide +kernel), List.mem_of_getElem? (i := 1148) (by decide +kernel), List.mem_of_getElem? (i := 1149) (by decide +kernel)⟩
def lw_privs_4 : List (MethodName × Nat) := [(⟨"HarpFencesModel", "isAt", "(II)Z"⟩, 32), (⟨"HarpFencesModel", "know", "()V"⟩, 32), (⟨"HarpFencesModel", "across", "(II)I"⟩, 32), (⟨"HarpFencesModel", "sing", "(I)V"⟩, 32), (⟨"HarpFencesModel", "alike", "()I"⟩, 32), (⟨"HarpFencesModel", "areAlike", "(II)Z"⟩, 32), (⟨"HarpFencesModel", "isString", "(I)Z"⟩, 32), (⟨"HarpFencesModel", "fewest", "(I)I"⟩, 32), (⟨"HarpFencesModel", "areApart", "(I)Z"⟩, 32), (⟨"HarpFencesModel", "areHeard", "(I)Z"⟩, 32), (⟨"HarpFencesModel", "isField", "(I)Z"⟩, 32), (⟨"HarpFencesModel", "endsOf", "(I)I"⟩, 32), (⟨"HarpFencesModel", "comesTo", "(II)Z"⟩, 32), (⟨"HarpFencesModel", "measure", "(II)V"⟩, 32), (⟨"HarpFencesModel", "costOf", "(II)I"⟩, 32), (⟨"HarpFencesModel", "fifthsOf", "(I)I"⟩, 32)]
theorem lw_r4 : ∀ q ∈ lw_privs_4, lw_okq q := List.forall_mem_cons.mpr ⟨lw_p48, List.forall_mem_cons.mpr ⟨lw_p49, List.forall_mem_cons.mpr ⟨lw_p50, List.forall_mem_cons.mpr ⟨lw_p51, List.forall_mem_cons.mpr ⟨lw_p52, List.forall_mem_cons.mpr ⟨lw_p53, List.forall_mem_cons.mpr ⟨lw_p54, List.forall_mem_cons.mpr ⟨lw_p55, List.forall_mem_cons.mpr ⟨lw_p56, List.forall_mem_cons.mpr ⟨lw_p57, List.forall_mem_cons.mpr ⟨lw_p58, List.forall_mem_cons.mpr ⟨lw_p59, List.forall_mem_cons.mpr ⟨lw_p60, List.forall_mem_cons.mpr ⟨lw_p61, List.forall_mem_cons.mpr ⟨lw_p62, List.forall_mem_cons.mpr ⟨lw_p63, fun _ h => absurd h List.not_mem_nil⟩⟩⟩⟩⟩⟩⟩⟩⟩⟩⟩⟩⟩⟩⟩⟩
theorem lw_p64 : lw_okq (⟨"HarpFencesModel", "milkBy", "(III)I"⟩, 32) := ⟨⟨by decide +kernel, by decide +kernel⟩, List.mem_of_getElem? (i := 828) (by decide +kernel), List.mem_of_getElem? (i := 1156) (by decide +kernel), List.mem_of_getElem? (i := 1157) (by decide +kernel)⟩
theorem lw_p65 : lw_okq (⟨"HarpFencesModel", "isUnheard", "(IIII)Z"⟩, 32) := ⟨⟨by decide +kernel, by decide +kernel⟩, List.mem_of_getElem? (i := 828) (by decide +kernel), List.mem_of_getElem? (i := 1164) (by decide +kernel), List.mem_of_getElem? (i := 1165) (by decide +kernel)⟩
def lw_privs_5 : List (MethodName × Nat) := [(⟨"HarpFencesModel", "milkBy", "(III)I"⟩, 32), (⟨"HarpFencesModel", "isUnheard", "(IIII)Z"⟩, 32)]
theorem lw_r5 : ∀ q ∈ lw_privs_5, lw_okq q := List.forall_mem_cons.mpr ⟨lw_p64, List.forall_mem_cons.mpr ⟨lw_p65, fun _ h => absurd h List.not_mem_nil⟩⟩
def lw_privs : List (MethodName × Nat) := lw_privs_1 ++ (lw_privs_2 ++ (lw_privs_3 ++ (lw_privs_4 ++ (lw_privs_5))))
def lw_tbl : List Cond := k2_sels lw_privs ++ tables_1
theorem lw_privs_ok : ∀ q ∈ lw_privs, lw_okq q := by
  show ∀ q ∈ lw_privs_1 ++ (lw_privs_2 ++ (lw_privs_3 ++ (lw_privs_4 ++ (lw_privs_5)))), lw_okq q
  exact List.forall_mem_append.mpr ⟨lw_r1, List.forall_mem_append.mpr ⟨lw_r2, List.forall_mem_append.mpr ⟨lw_r3, List.forall_mem_append.mpr ⟨lw_r4, lw_r5⟩⟩⟩⟩
-- ===== end of PART A; then your names; then what follows =====
end
section
def RX0 : String := "HarpFences$Choices"
def TX0 : u_T := fun k => match k with
  | 0 => ("HarpFences$Choices", "farm", "LHarpFences$Farm;", true)
  | 1 => ("HarpFences$Choices", "land", "LHarpFences$Land;", true)
  | 2 => ("HarpFences$Choices", "partners", "[I", true)
  | 3 => ("HarpFences$Choices", "fifthsOf", "[I", true)
  | _ => ("HarpFences$Choices", "mostWithTaken", "[I", true)
def tyX0 : Nat → FieldType := fun k => match k with
  | 0 => .object "HarpFences$Farm"
  | 1 => .object "HarpFences$Land"
  | 2 => .array .int
  | 3 => .array .int
  | _ => .array .int
theorem nmX0 : ∀ a, a < 5 → ∀ b, b < 5 → a ≠ b → (TX0 a).2.1 ≠ (TX0 b).2.1 := by decide +kernel
theorem tyX0_ok : ∀ k, k < 5 → parseFieldDescriptor (TX0 k).2.2.1 = some (tyX0 k) := by decide +kernel
abbrev cX0_init : ByteArray := prog_2_method_1_code
def yX0_init : MethodName := ⟨RX0, "<init>", "(LHarpFences$Farm;)V"⟩
abbrev cX0_alike : ByteArray := prog_2_method_2_code
def yX0_alike : MethodName := ⟨RX0, "alike", "()I"⟩
abbrev cX0_fewestTuned : ByteArray := prog_2_method_3_code
def yX0_fewestTuned : MethodName := ⟨RX0, "fewestTuned", "()I"⟩
abbrev cX0_fewestEars : ByteArray := prog_2_method_4_code
def yX0_fewestEars : MethodName := ⟨RX0, "fewestEars", "()I"⟩
abbrev cX0_partnerAlikes : ByteArray := prog_2_method_5_code
def yX0_partnerAlikes : MethodName := ⟨RX0, "partnerAlikes", "()V"⟩
abbrev cX0_areAlike : ByteArray := prog_2_method_6_code
def yX0_areAlike : MethodName := ⟨RX0, "areAlike", "(II)Z"⟩
abbrev cX0_fewestOfEachTwo : ByteArray := prog_2_method_7_code
def yX0_fewestOfEachTwo : MethodName := ⟨RX0, "fewestOfEachTwo", "(I)I"⟩
abbrev cX0_hasOneOfEachTwo : ByteArray := prog_2_method_8_code
def yX0_hasOneOfEachTwo : MethodName := ⟨RX0, "hasOneOfEachTwo", "(II)Z"⟩
abbrev cX0_mostMilk : ByteArray := prog_2_method_9_code
def yX0_mostMilk : MethodName := ⟨RX0, "mostMilk", "()I"⟩
abbrev cX0_fieldInHerd : ByteArray := prog_2_method_10_code
def yX0_fieldInHerd : MethodName := ⟨RX0, "fieldInHerd", "(I)I"⟩
abbrev cX0_bestField : ByteArray := prog_2_method_11_code
def yX0_bestField : MethodName := ⟨RX0, "bestField", "(II)I"⟩
abbrev cX0_measureHerds : ByteArray := prog_2_method_12_code
def yX0_measureHerds : MethodName := ⟨RX0, "measureHerds", "()V"⟩
abbrev cX0_milkWith : ByteArray := prog_2_method_13_code
def yX0_milkWith : MethodName := ⟨RX0, "milkWith", "(III)I"⟩
def RX1 : String := "HarpFences$Farm"
def TX1 : u_T := fun k => match k with
  | 0 => ("HarpFences$Farm", "land", "LHarpFences$Land;", true)
  | _ => ("HarpFences$Farm", "stand", "LHarpFences$Stand;", true)
def tyX1 : Nat → FieldType := fun k => match k with
  | 0 => .object "HarpFences$Land"
  | _ => .object "HarpFences$Stand"
theorem nmX1 : ∀ a, a < 2 → ∀ b, b < 2 → a ≠ b → (TX1 a).2.1 ≠ (TX1 b).2.1 := by decide +kernel
theorem tyX1_ok : ∀ k, k < 2 → parseFieldDescriptor (TX1 k).2.2.1 = some (tyX1 k) := by decide +kernel
abbrev cX1_init : ByteArray := prog_3_method_1_code
def yX1_init : MethodName := ⟨RX1, "<init>", "(LHarpFences$Land;LHarpFences$Stand;)V"⟩
abbrev cX1_isString : ByteArray := prog_3_method_2_code
def yX1_isString : MethodName := ⟨RX1, "isString", "(I)Z"⟩
abbrev cX1_soundTo : ByteArray := prog_3_method_3_code
def yX1_soundTo : MethodName := ⟨RX1, "soundTo", "(II)I"⟩
abbrev cX1_fifthsAt : ByteArray := prog_3_method_4_code
def yX1_fifthsAt : MethodName := ⟨RX1, "fifthsAt", "(I)I"⟩
abbrev cX1_isStringAt : ByteArray := prog_3_method_5_code
def yX1_isStringAt : MethodName := ⟨RX1, "isStringAt", "(II)Z"⟩
abbrev cX1_beastsThatSound : ByteArray := prog_3_method_6_code
def yX1_beastsThatSound : MethodName := ⟨RX1, "beastsThatSound", "(I)I"⟩
def RX2 : String := "HarpFences$Hearing"
def TX2 : u_T := fun k => match k with
  | 0 => ("HarpFences$Hearing", "farm", "LHarpFences$Farm;", true)
  | 1 => ("HarpFences$Hearing", "land", "LHarpFences$Land;", true)
  | 2 => ("HarpFences$Hearing", "sounds", "[I", true)
  | 3 => ("HarpFences$Hearing", "endsByKind", "[I", true)
  | 4 => ("HarpFences$Hearing", "rows", "[I", false)
  | 5 => ("HarpFences$Hearing", "rowsAfter", "[I", false)
  | _ => ("HarpFences$Hearing", "heard", "I", false)
def tyX2 : Nat → FieldType := fun k => match k with
  | 0 => .object "HarpFences$Farm"
  | 1 => .object "HarpFences$Land"
  | 2 => .array .int
  | 3 => .array .int
  | 4 => .array .int
  | 5 => .array .int
  | _ => .int
theorem nmX2 : ∀ a, a < 7 → ∀ b, b < 7 → a ≠ b → (TX2 a).2.1 ≠ (TX2 b).2.1 := by decide +kernel
theorem tyX2_ok : ∀ k, k < 7 → parseFieldDescriptor (TX2 k).2.2.1 = some (tyX2 k) := by decide +kernel
abbrev cX2_init : ByteArray := prog_4_method_1_code
def yX2_init : MethodName := ⟨RX2, "<init>", "(LHarpFences$Farm;)V"⟩
abbrev cX2_takes : ByteArray := prog_4_method_2_code
def yX2_takes : MethodName := ⟨RX2, "takes", "(I)Z"⟩
abbrev cX2_rowsFrom : ByteArray := prog_4_method_3_code
def yX2_rowsFrom : MethodName := ⟨RX2, "rowsFrom", "(II)I"⟩
abbrev cX2_crossAll : ByteArray := prog_4_method_4_code
def yX2_crossAll : MethodName := ⟨RX2, "crossAll", "(II)V"⟩
abbrev cX2_endsOf : ByteArray := prog_4_method_5_code
def yX2_endsOf : MethodName := ⟨RX2, "endsOf", "(I)I"⟩
abbrev cX2_endsBehind : ByteArray := prog_4_method_6_code
def yX2_endsBehind : MethodName := ⟨RX2, "endsBehind", "(III)I"⟩
abbrev cX2_kindsThatCan : ByteArray := prog_4_method_7_code
def yX2_kindsThatCan : MethodName := ⟨RX2, "kindsThatCan", "()I"⟩
abbrev cX2_fenceToWatch : ByteArray := prog_4_method_8_code
def yX2_fenceToWatch : MethodName := ⟨RX2, "fenceToWatch", "()I"⟩
abbrev cX2_greatestCrowd : ByteArray := prog_4_method_9_code
def yX2_greatestCrowd : MethodName := ⟨RX2, "greatestCrowd", "(I)I"⟩
abbrev cX2_comesTo : ByteArray := prog_4_method_10_code
def yX2_comesTo : MethodName := ⟨RX2, "comesTo", "(II)Z"⟩
def RX3 : String := "HarpFences$Image"
def TX3 : u_T := fun k => match k with
  | 0 => ("HarpFences$Image", "stand", "LHarpFences$Stand;", true)
  | 1 => ("HarpFences$Image", "past", "LHarpFences$Past;", true)
  | _ => ("HarpFences$Image", "kept", "Z", false)
def tyX3 : Nat → FieldType := fun k => match k with
  | 0 => .object "HarpFences$Stand"
  | 1 => .object "HarpFences$Past"
  | _ => .boolean
theorem nmX3 : ∀ a, a < 3 → ∀ b, b < 3 → a ≠ b → (TX3 a).2.1 ≠ (TX3 b).2.1 := by decide +kernel
theorem tyX3_ok : ∀ k, k < 3 → parseFieldDescriptor (TX3 k).2.2.1 = some (tyX3 k) := by decide +kernel
abbrev cX3_init : ByteArray := prog_5_method_1_code
def yX3_init : MethodName := ⟨RX3, "<init>", "()V"⟩
abbrev cX3_take : ByteArray := prog_5_method_2_code
def yX3_take : MethodName := ⟨RX3, "take", "(LHarpFences$Stand;LHarpFences$Past;)V"⟩
abbrev cX3_give : ByteArray := prog_5_method_3_code
def yX3_give : MethodName := ⟨RX3, "give", "(LHarpFences$Stand;LHarpFences$Past;)V"⟩
def RX4 : String := "HarpFences$Land"
def TX4 : u_T := fun k => match k with
  | 0 => ("HarpFences$Land", "fields", "I", false)
  | 1 => ("HarpFences$Land", "fences", "I", false)
  | 2 => ("HarpFences$Land", "first", "[I", true)
  | 3 => ("HarpFences$Land", "second", "[I", true)
  | 4 => ("HarpFences$Land", "pitch", "[I", true)
  | 5 => ("HarpFences$Land", "kinds", "I", false)
  | 6 => ("HarpFences$Land", "voice", "[I", true)
  | 7 => ("HarpFences$Land", "milk", "[I", true)
  | 8 => ("HarpFences$Land", "beasts", "I", false)
  | 9 => ("HarpFences$Land", "kindOf", "[I", true)
  | 10 => ("HarpFences$Land", "field", "[I", true)
  | _ => ("HarpFences$Land", "wet", "I", false)
def tyX4 : Nat → FieldType := fun k => match k with
  | 0 => .int
  | 1 => .int
  | 2 => .array .int
  | 3 => .array .int
  | 4 => .array .int
  | 5 => .int
  | 6 => .array .int
  | 7 => .array .int
  | 8 => .int
  | 9 => .array .int
  | 10 => .array .int
  | _ => .int
theorem nmX4 : ∀ a, a < 12 → ∀ b, b < 12 → a ≠ b → (TX4 a).2.1 ≠ (TX4 b).2.1 := by decide +kernel
theorem tyX4_ok : ∀ k, k < 12 → parseFieldDescriptor (TX4 k).2.2.1 = some (tyX4 k) := by decide +kernel
abbrev cX4_init : ByteArray := prog_6_method_1_code
def yX4_init : MethodName := ⟨RX4, "<init>", "()V"⟩
abbrev cX4_begin : ByteArray := prog_6_method_2_code
def yX4_begin : MethodName := ⟨RX4, "begin", "()V"⟩
abbrev cX4_copyFrom : ByteArray := prog_6_method_3_code
def yX4_copyFrom : MethodName := ⟨RX4, "copyFrom", "(LHarpFences$Land;)V"⟩
abbrev cX4_isAt : ByteArray := prog_6_method_4_code
def yX4_isAt : MethodName := ⟨RX4, "isAt", "(II)Z"⟩
abbrev cX4_across : ByteArray := prog_6_method_5_code
def yX4_across : MethodName := ⟨RX4, "across", "(II)I"⟩
abbrev cX4_endBits : ByteArray := prog_6_method_6_code
def yX4_endBits : MethodName := ⟨RX4, "endBits", "(I)I"⟩
def RX5 : String := "HarpFences$Past"
def TX5 : u_T := fun k => match k with
  | 0 => ("HarpFences$Past", "ahead", "[LHarpFences$Stand;", true)
  | 1 => ("HarpFences$Past", "latest", "I", false)
  | _ => ("HarpFences$Past", "known", "I", false)
def tyX5 : Nat → FieldType := fun k => match k with
  | 0 => .array (.object "HarpFences$Stand")
  | 1 => .int
  | _ => .int
theorem nmX5 : ∀ a, a < 3 → ∀ b, b < 3 → a ≠ b → (TX5 a).2.1 ≠ (TX5 b).2.1 := by decide +kernel
theorem tyX5_ok : ∀ k, k < 3 → parseFieldDescriptor (TX5 k).2.2.1 = some (tyX5 k) := by decide +kernel
abbrev cX5_init : ByteArray := prog_7_method_1_code
def yX5_init : MethodName := ⟨RX5, "<init>", "()V"⟩
abbrev cX5_note : ByteArray := prog_7_method_2_code
def yX5_note : MethodName := ⟨RX5, "note", "(LHarpFences$Stand;)V"⟩
abbrev cX5_restore : ByteArray := prog_7_method_3_code
def yX5_restore : MethodName := ⟨RX5, "restore", "(LHarpFences$Stand;)V"⟩
abbrev cX5_copyFrom : ByteArray := prog_7_method_4_code
def yX5_copyFrom : MethodName := ⟨RX5, "copyFrom", "(LHarpFences$Past;)V"⟩
def RX6 : String := "HarpFences$Paths"
def TX6 : u_T := fun k => match k with
  | 0 => ("HarpFences$Paths", "farm", "LHarpFences$Farm;", true)
  | 1 => ("HarpFences$Paths", "land", "LHarpFences$Land;", true)
  | 2 => ("HarpFences$Paths", "costs", "[I", true)
  | 3 => ("HarpFences$Paths", "snapping", "[I", true)
  | 4 => ("HarpFences$Paths", "snappers", "I", false)
  | _ => ("HarpFences$Paths", "silent", "I", false)
def tyX6 : Nat → FieldType := fun k => match k with
  | 0 => .object "HarpFences$Farm"
  | 1 => .object "HarpFences$Land"
  | 2 => .array .int
  | 3 => .array .int
  | 4 => .int
  | _ => .int
theorem nmX6 : ∀ a, a < 6 → ∀ b, b < 6 → a ≠ b → (TX6 a).2.1 ≠ (TX6 b).2.1 := by decide +kernel
theorem tyX6_ok : ∀ k, k < 6 → parseFieldDescriptor (TX6 k).2.2.1 = some (tyX6 k) := by decide +kernel
abbrev cX6_init : ByteArray := prog_8_method_1_code
def yX6_init : MethodName := ⟨RX6, "<init>", "(LHarpFences$Farm;)V"⟩
abbrev cX6_fewestHeard : ByteArray := prog_8_method_2_code
def yX6_fewestHeard : MethodName := ⟨RX6, "fewestHeard", "(III)I"⟩
abbrev cX6_fewestCrossings : ByteArray := prog_8_method_3_code
def yX6_fewestCrossings : MethodName := ⟨RX6, "fewestCrossings", "(III)I"⟩
abbrev cX6_firstFence : ByteArray := prog_8_method_4_code
def yX6_firstFence : MethodName := ⟨RX6, "firstFence", "(III)I"⟩
abbrev cX6_costOf : ByteArray := prog_8_method_5_code
def yX6_costOf : MethodName := ⟨RX6, "costOf", "(II)I"⟩
abbrev cX6_measure : ByteArray := prog_8_method_6_code
def yX6_measure : MethodName := ⟨RX6, "measure", "(II)V"⟩
abbrev cX6_frostParts : ByteArray := prog_8_method_7_code
def yX6_frostParts : MethodName := ⟨RX6, "frostParts", "(II)I"⟩
abbrev cX6_frostUnheard : ByteArray := prog_8_method_8_code
def yX6_frostUnheard : MethodName := ⟨RX6, "frostUnheard", "(III)I"⟩
abbrev cX6_snappedFences : ByteArray := prog_8_method_9_code
def yX6_snappedFences : MethodName := ⟨RX6, "snappedFences", "(I)I"⟩
abbrev cX6_reaches : ByteArray := prog_8_method_10_code
def yX6_reaches : MethodName := ⟨RX6, "reaches", "(III)Z"⟩
abbrev cX6_power : ByteArray := prog_8_method_11_code
def yX6_power : MethodName := ⟨RX6, "power", "(II)I"⟩
abbrev cX6_commonDivisor : ByteArray := prog_8_method_12_code
def yX6_commonDivisor : MethodName := ⟨RX6, "commonDivisor", "(II)I"⟩
def RX7 : String := "HarpFences$Stand"
def TX7 : u_T := fun k => match k with
  | 0 => ("HarpFences$Stand", "field", "[I", true)
  | 1 => ("HarpFences$Stand", "pitch", "[I", true)
  | 2 => ("HarpFences$Stand", "song", "[I", true)
  | 3 => ("HarpFences$Stand", "sung", "I", false)
  | 4 => ("HarpFences$Stand", "cut", "I", false)
  | 5 => ("HarpFences$Stand", "down", "I", false)
  | _ => ("HarpFences$Stand", "wet", "I", false)
def tyX7 : Nat → FieldType := fun k => match k with
  | 0 => .array .int
  | 1 => .array .int
  | 2 => .array .int
  | 3 => .int
  | 4 => .int
  | 5 => .int
  | _ => .int
theorem nmX7 : ∀ a, a < 7 → ∀ b, b < 7 → a ≠ b → (TX7 a).2.1 ≠ (TX7 b).2.1 := by decide +kernel
theorem tyX7_ok : ∀ k, k < 7 → parseFieldDescriptor (TX7 k).2.2.1 = some (tyX7 k) := by decide +kernel
abbrev cX7_init : ByteArray := prog_9_method_1_code
def yX7_init : MethodName := ⟨RX7, "<init>", "()V"⟩
abbrev cX7_begin : ByteArray := prog_9_method_2_code
def yX7_begin : MethodName := ⟨RX7, "begin", "(LHarpFences$Land;)V"⟩
abbrev cX7_copyFrom : ByteArray := prog_9_method_3_code
def yX7_copyFrom : MethodName := ⟨RX7, "copyFrom", "(LHarpFences$Stand;)V"⟩
abbrev cX7_sing : ByteArray := prog_9_method_4_code
def yX7_sing : MethodName := ⟨RX7, "sing", "(I)V"⟩
def RX8 : String := "HarpFences$Text"
def TX8 : u_T := fun k => match k with
  | 0 => ("HarpFences$Text", "bytes", "[I", true)
  | 1 => ("HarpFences$Text", "length", "I", false)
  | 2 => ("HarpFences$Text", "place", "I", false)
  | 3 => ("HarpFences$Text", "token", "I", false)
  | 4 => ("HarpFences$Text", "start", "I", false)
  | 5 => ("HarpFences$Text", "value", "I", false)
  | _ => ("HarpFences$Text", "wetTold", "Z", false)
def tyX8 : Nat → FieldType := fun k => match k with
  | 0 => .array .int
  | 1 => .int
  | 2 => .int
  | 3 => .int
  | 4 => .int
  | 5 => .int
  | _ => .boolean
theorem nmX8 : ∀ a, a < 7 → ∀ b, b < 7 → a ≠ b → (TX8 a).2.1 ≠ (TX8 b).2.1 := by decide +kernel
theorem tyX8_ok : ∀ k, k < 7 → parseFieldDescriptor (TX8 k).2.2.1 = some (tyX8 k) := by decide +kernel
abbrev cX8_init : ByteArray := prog_10_method_1_code
def yX8_init : MethodName := ⟨RX8, "<init>", "()V"⟩
abbrev cX8_takes : ByteArray := prog_10_method_2_code
def yX8_takes : MethodName := ⟨RX8, "takes", "(I)Z"⟩
abbrev cX8_tell : ByteArray := prog_10_method_3_code
def yX8_tell : MethodName := ⟨RX8, "tell", "(LHarpFences$Land;)I"⟩
abbrev cX8_tellsFields : ByteArray := prog_10_method_4_code
def yX8_tellsFields : MethodName := ⟨RX8, "tellsFields", "(LHarpFences$Land;)Z"⟩
abbrev cX8_tellsFence : ByteArray := prog_10_method_5_code
def yX8_tellsFence : MethodName := ⟨RX8, "tellsFence", "(LHarpFences$Land;)Z"⟩
abbrev cX8_tellsKind : ByteArray := prog_10_method_6_code
def yX8_tellsKind : MethodName := ⟨RX8, "tellsKind", "(LHarpFences$Land;)Z"⟩
abbrev cX8_tellsBeast : ByteArray := prog_10_method_7_code
def yX8_tellsBeast : MethodName := ⟨RX8, "tellsBeast", "(LHarpFences$Land;)Z"⟩
abbrev cX8_tellsWet : ByteArray := prog_10_method_8_code
def yX8_tellsWet : MethodName := ⟨RX8, "tellsWet", "(LHarpFences$Land;)Z"⟩
abbrev cX8_number : ByteArray := prog_10_method_9_code
def yX8_number : MethodName := ⟨RX8, "number", "(II)Z"⟩
abbrev cX8_stops : ByteArray := prog_10_method_10_code
def yX8_stops : MethodName := ⟨RX8, "stops", "()Z"⟩
abbrev cX8_step : ByteArray := prog_10_method_11_code
def yX8_step : MethodName := ⟨RX8, "step", "()V"⟩
abbrev cX8_stepLetters : ByteArray := prog_10_method_12_code
def yX8_stepLetters : MethodName := ⟨RX8, "stepLetters", "()V"⟩
abbrev cX8_stepNumber : ByteArray := prog_10_method_13_code
def yX8_stepNumber : MethodName := ⟨RX8, "stepNumber", "()V"⟩
abbrev cX8_isLetter : ByteArray := prog_10_method_14_code
def yX8_isLetter : MethodName := ⟨RX8, "isLetter", "(I)Z"⟩
abbrev cX8_isDigit : ByteArray := prog_10_method_15_code
def yX8_isDigit : MethodName := ⟨RX8, "isDigit", "(I)Z"⟩
def RX9 : String := "HarpFences"
def TX9 : u_T := fun k => match k with
  | 0 => ("HarpFences", "text", "LHarpFences$Text;", true)
  | 1 => ("HarpFences", "land", "LHarpFences$Land;", true)
  | 2 => ("HarpFences", "draft", "LHarpFences$Land;", true)
  | 3 => ("HarpFences", "stand", "LHarpFences$Stand;", true)
  | 4 => ("HarpFences", "farm", "LHarpFences$Farm;", true)
  | 5 => ("HarpFences", "past", "LHarpFences$Past;", true)
  | 6 => ("HarpFences", "images", "[LHarpFences$Image;", true)
  | 7 => ("HarpFences", "hearing", "LHarpFences$Hearing;", true)
  | 8 => ("HarpFences", "paths", "LHarpFences$Paths;", true)
  | 9 => ("HarpFences", "choices", "LHarpFences$Choices;", true)
  | _ => ("HarpFences", "traced", "J", false)
def tyX9 : Nat → FieldType := fun k => match k with
  | 0 => .object "HarpFences$Text"
  | 1 => .object "HarpFences$Land"
  | 2 => .object "HarpFences$Land"
  | 3 => .object "HarpFences$Stand"
  | 4 => .object "HarpFences$Farm"
  | 5 => .object "HarpFences$Past"
  | 6 => .array (.object "HarpFences$Image")
  | 7 => .object "HarpFences$Hearing"
  | 8 => .object "HarpFences$Paths"
  | 9 => .object "HarpFences$Choices"
  | _ => .long
theorem nmX9 : ∀ a, a < 11 → ∀ b, b < 11 → a ≠ b → (TX9 a).2.1 ≠ (TX9 b).2.1 := by decide +kernel
theorem tyX9_ok : ∀ k, k < 11 → parseFieldDescriptor (TX9 k).2.2.1 = some (tyX9 k) := by decide +kernel
abbrev cX9_init : ByteArray := prog_1_method_1_code
def yX9_init : MethodName := ⟨RX9, "<init>", "()V"⟩
abbrev cX9_type : ByteArray := prog_1_method_2_code
def yX9_type : MethodName := ⟨RX9, "type", "(I)I"⟩
abbrev cX9_clear : ByteArray := prog_1_method_3_code
def yX9_clear : MethodName := ⟨RX9, "clear", "()I"⟩
abbrev cX9_downs : ByteArray := prog_1_method_4_code
def yX9_downs : MethodName := ⟨RX9, "downs", "()I"⟩
abbrev cX9_fence : ByteArray := prog_1_method_5_code
def yX9_fence : MethodName := ⟨RX9, "fence", "(II)I"⟩
abbrev cX9_kind : ByteArray := prog_1_method_6_code
def yX9_kind : MethodName := ⟨RX9, "kind", "(II)I"⟩
abbrev cX9_beast : ByteArray := prog_1_method_7_code
def yX9_beast : MethodName := ⟨RX9, "beast", "(II)I"⟩
abbrev cX9_sound : ByteArray := prog_1_method_8_code
def yX9_sound : MethodName := ⟨RX9, "sound", "(II)I"⟩
abbrev cX9_goes : ByteArray := prog_1_method_9_code
def yX9_goes : MethodName := ⟨RX9, "goes", "(II)I"⟩
abbrev cX9_cuts : ByteArray := prog_1_method_10_code
def yX9_cuts : MethodName := ⟨RX9, "cuts", "(II)I"⟩
abbrev cX9_tunes : ByteArray := prog_1_method_11_code
def yX9_tunes : MethodName := ⟨RX9, "tunes", "(II)I"⟩
abbrev cX9_lays : ByteArray := prog_1_method_12_code
def yX9_lays : MethodName := ⟨RX9, "lays", "(I)I"⟩
abbrev cX9_rains : ByteArray := prog_1_method_13_code
def yX9_rains : MethodName := ⟨RX9, "rains", "(I)I"⟩
abbrev cX9_undo : ByteArray := prog_1_method_14_code
def yX9_undo : MethodName := ⟨RX9, "undo", "()I"⟩
abbrev cX9_now : ByteArray := prog_1_method_15_code
def yX9_now : MethodName := ⟨RX9, "now", "(I)I"⟩
abbrev cX9_song : ByteArray := prog_1_method_16_code
def yX9_song : MethodName := ⟨RX9, "song", "(I)I"⟩
abbrev cX9_who : ByteArray := prog_1_method_17_code
def yX9_who : MethodName := ⟨RX9, "who", "(I)I"⟩
abbrev cX9_hears : ByteArray := prog_1_method_18_code
def yX9_hears : MethodName := ⟨RX9, "hears", "(I)I"⟩
abbrev cX9_forget : ByteArray := prog_1_method_19_code
def yX9_forget : MethodName := ⟨RX9, "forget", "()I"⟩
abbrev cX9_ways : ByteArray := prog_1_method_20_code
def yX9_ways : MethodName := ⟨RX9, "ways", "(II)I"⟩
abbrev cX9_ends : ByteArray := prog_1_method_21_code
def yX9_ends : MethodName := ⟨RX9, "ends", "(I)I"⟩
abbrev cX9_can : ByteArray := prog_1_method_22_code
def yX9_can : MethodName := ⟨RX9, "can", "()I"⟩
abbrev cX9_ask : ByteArray := prog_1_method_23_code
def yX9_ask : MethodName := ⟨RX9, "ask", "()I"⟩
abbrev cX9_quiet : ByteArray := prog_1_method_24_code
def yX9_quiet : MethodName := ⟨RX9, "quiet", "(IIII)I"⟩
abbrev cX9_fifths : ByteArray := prog_1_method_25_code
def yX9_fifths : MethodName := ⟨RX9, "fifths", "(I)I"⟩
abbrev cX9_herd : ByteArray := prog_1_method_26_code
def yX9_herd : MethodName := ⟨RX9, "herd", "(I)I"⟩
abbrev cX9_frost : ByteArray := prog_1_method_27_code
def yX9_frost : MethodName := ⟨RX9, "frost", "(IIIIII)I"⟩
abbrev cX9_mark : ByteArray := prog_1_method_28_code
def yX9_mark : MethodName := ⟨RX9, "mark", "(II)I"⟩
abbrev cX9_keep : ByteArray := prog_1_method_29_code
def yX9_keep : MethodName := ⟨RX9, "keep", "(I)I"⟩
abbrev cX9_back : ByteArray := prog_1_method_30_code
def yX9_back : MethodName := ⟨RX9, "back", "(I)I"⟩
abbrev cX9_count : ByteArray := prog_1_method_31_code
def yX9_count : MethodName := ⟨RX9, "count", "(I)I"⟩
abbrev cX9_trace : ByteArray := prog_1_method_32_code
def yX9_trace : MethodName := ⟨RX9, "trace", "()J"⟩
abbrev cX9_beginAnew : ByteArray := prog_1_method_33_code
def yX9_beginAnew : MethodName := ⟨RX9, "beginAnew", "()V"⟩
abbrev cX9_isField : ByteArray := prog_1_method_34_code
def yX9_isField : MethodName := ⟨RX9, "isField", "(I)Z"⟩
abbrev cX9_isFence : ByteArray := prog_1_method_35_code
def yX9_isFence : MethodName := ⟨RX9, "isFence", "(I)Z"⟩
abbrev cX9_isKind : ByteArray := prog_1_method_36_code
def yX9_isKind : MethodName := ⟨RX9, "isKind", "(I)Z"⟩
abbrev cX9_isBeast : ByteArray := prog_1_method_37_code
def yX9_isBeast : MethodName := ⟨RX9, "isBeast", "(I)Z"⟩
abbrev cX9_isImage : ByteArray := prog_1_method_38_code
def yX9_isImage : MethodName := ⟨RX9, "isImage", "(I)Z"⟩
abbrev cX9_isFlag : ByteArray := prog_1_method_39_code
def yX9_isFlag : MethodName := ⟨RX9, "isFlag", "(I)Z"⟩
abbrev cX9_markString : ByteArray := prog_1_method_40_code
def yX9_markString : MethodName := ⟨RX9, "markString", "(I)I"⟩
abbrev cX9_markBass : ByteArray := prog_1_method_41_code
def yX9_markBass : MethodName := ⟨RX9, "markBass", "(I)I"⟩
abbrev cX9_markTreble : ByteArray := prog_1_method_42_code
def yX9_markTreble : MethodName := ⟨RX9, "markTreble", "(I)I"⟩
abbrev cX9_markBull : ByteArray := prog_1_method_43_code
def yX9_markBull : MethodName := ⟨RX9, "markBull", "(I)I"⟩
abbrev cX9_markLark : ByteArray := prog_1_method_44_code
def yX9_markLark : MethodName := ⟨RX9, "markLark", "(I)I"⟩
abbrev cX9_markPedal : ByteArray := prog_1_method_45_code
def yX9_markPedal : MethodName := ⟨RX9, "markPedal", "(I)I"⟩
def RX10 : String := "HarpFencesModel"
def TX10 : u_T := fun k => match k with
  | 0 => ("HarpFencesModel", "text", "[B", true)
  | 1 => ("HarpFencesModel", "typed", "I", false)
  | 2 => ("HarpFencesModel", "fields", "[I", true)
  | 3 => ("HarpFencesModel", "fences", "[I", true)
  | 4 => ("HarpFencesModel", "left", "[I", true)
  | 5 => ("HarpFencesModel", "right", "[I", true)
  | 6 => ("HarpFencesModel", "firstPitch", "[I", true)
  | 7 => ("HarpFencesModel", "kinds", "[I", true)
  | 8 => ("HarpFencesModel", "voice", "[I", true)
  | 9 => ("HarpFencesModel", "milk", "[I", true)
  | 10 => ("HarpFencesModel", "beasts", "[I", true)
  | 11 => ("HarpFencesModel", "kindOf", "[I", true)
  | 12 => ("HarpFencesModel", "firstField", "[I", true)
  | 13 => ("HarpFencesModel", "firstWet", "[I", true)
  | 14 => ("HarpFencesModel", "at", "I", false)
  | 15 => ("HarpFencesModel", "place", "I", false)
  | 16 => ("HarpFencesModel", "sort", "I", false)
  | 17 => ("HarpFencesModel", "value", "I", false)
  | 18 => ("HarpFencesModel", "isWrong", "Z", false)
  | 19 => ("HarpFencesModel", "items", "I", false)
  | 20 => ("HarpFencesModel", "now", "[I", true)
  | 21 => ("HarpFencesModel", "known", "[I", true)
  | 22 => ("HarpFencesModel", "before", "[I", true)
  | 23 => ("HarpFencesModel", "store", "[I", true)
  | 24 => ("HarpFencesModel", "isKept", "[Z", true)
  | 25 => ("HarpFencesModel", "ear", "[I", true)
  | 26 => ("HarpFencesModel", "heard", "I", false)
  | 27 => ("HarpFencesModel", "many", "[I", true)
  | 28 => ("HarpFencesModel", "next", "[I", true)
  | 29 => ("HarpFencesModel", "far", "[I", true)
  | 30 => ("HarpFencesModel", "most", "[I", true)
  | _ => ("HarpFencesModel", "trace", "J", false)
def tyX10 : Nat → FieldType := fun k => match k with
  | 0 => .array .byte
  | 1 => .int
  | 2 => .array .int
  | 3 => .array .int
  | 4 => .array .int
  | 5 => .array .int
  | 6 => .array .int
  | 7 => .array .int
  | 8 => .array .int
  | 9 => .array .int
  | 10 => .array .int
  | 11 => .array .int
  | 12 => .array .int
  | 13 => .array .int
  | 14 => .int
  | 15 => .int
  | 16 => .int
  | 17 => .int
  | 18 => .boolean
  | 19 => .int
  | 20 => .array .int
  | 21 => .array .int
  | 22 => .array .int
  | 23 => .array .int
  | 24 => .array .boolean
  | 25 => .array .int
  | 26 => .int
  | 27 => .array .int
  | 28 => .array .int
  | 29 => .array .int
  | 30 => .array .int
  | _ => .long
theorem nmX10 : ∀ a, a < 32 → ∀ b, b < 32 → a ≠ b → (TX10 a).2.1 ≠ (TX10 b).2.1 := by decide +kernel
theorem tyX10_ok : ∀ k, k < 32 → parseFieldDescriptor (TX10 k).2.2.1 = some (tyX10 k) := by decide +kernel
abbrev cX10_init : ByteArray := prog_12_method_1_code
def yX10_init : MethodName := ⟨RX10, "<init>", "()V"⟩
abbrev cX10_in : ByteArray := prog_12_method_3_code
def yX10_in : MethodName := ⟨RX10, "in", "(III)Z"⟩
abbrev cX10_has : ByteArray := prog_12_method_4_code
def yX10_has : MethodName := ⟨RX10, "has", "(II)Z"⟩
abbrev cX10_type : ByteArray := prog_12_method_5_code
def yX10_type : MethodName := ⟨RX10, "type", "(I)I"⟩
abbrev cX10_clear : ByteArray := prog_12_method_6_code
def yX10_clear : MethodName := ⟨RX10, "clear", "()I"⟩
abbrev cX10_here : ByteArray := prog_12_method_7_code
def yX10_here : MethodName := ⟨RX10, "here", "()I"⟩
abbrev cX10_step : ByteArray := prog_12_method_8_code
def yX10_step : MethodName := ⟨RX10, "step", "()V"⟩
abbrev cX10_due : ByteArray := prog_12_method_9_code
def yX10_due : MethodName := ⟨RX10, "due", "(Z)V"⟩
abbrev cX10_number : ByteArray := prog_12_method_10_code
def yX10_number : MethodName := ⟨RX10, "number", "(II)I"⟩
abbrev cX10_item : ByteArray := prog_12_method_11_code
def yX10_item : MethodName := ⟨RX10, "item", "(I)V"⟩
abbrev cX10_may : ByteArray := prog_12_method_12_code
def yX10_may : MethodName := ⟨RX10, "may", "(IZ)Z"⟩
abbrev cX10_read : ByteArray := prog_12_method_13_code
def yX10_read : MethodName := ⟨RX10, "read", "()V"⟩
abbrev cX10_downs : ByteArray := prog_12_method_14_code
def yX10_downs : MethodName := ⟨RX10, "downs", "()I"⟩
abbrev cX10_isField : ByteArray := prog_12_method_15_code
def yX10_isField : MethodName := ⟨RX10, "isField", "(I)Z"⟩
abbrev cX10_isFence : ByteArray := prog_12_method_16_code
def yX10_isFence : MethodName := ⟨RX10, "isFence", "(I)Z"⟩
abbrev cX10_isKind : ByteArray := prog_12_method_17_code
def yX10_isKind : MethodName := ⟨RX10, "isKind", "(I)Z"⟩
abbrev cX10_isBeast : ByteArray := prog_12_method_18_code
def yX10_isBeast : MethodName := ⟨RX10, "isBeast", "(I)Z"⟩
abbrev cX10_soundOf : ByteArray := prog_12_method_19_code
def yX10_soundOf : MethodName := ⟨RX10, "soundOf", "(II)I"⟩
abbrev cX10_isAt : ByteArray := prog_12_method_20_code
def yX10_isAt : MethodName := ⟨RX10, "isAt", "(II)Z"⟩
abbrev cX10_across : ByteArray := prog_12_method_21_code
def yX10_across : MethodName := ⟨RX10, "across", "(II)I"⟩
abbrev cX10_isString : ByteArray := prog_12_method_22_code
def yX10_isString : MethodName := ⟨RX10, "isString", "(I)Z"⟩
abbrev cX10_bitsOf : ByteArray := prog_12_method_23_code
def yX10_bitsOf : MethodName := ⟨RX10, "bitsOf", "(I)I"⟩
abbrev cX10_allOf : ByteArray := prog_12_method_24_code
def yX10_allOf : MethodName := ⟨RX10, "allOf", "(I)I"⟩
abbrev cX10_fence : ByteArray := prog_12_method_25_code
def yX10_fence : MethodName := ⟨RX10, "fence", "(II)I"⟩
abbrev cX10_kind : ByteArray := prog_12_method_26_code
def yX10_kind : MethodName := ⟨RX10, "kind", "(II)I"⟩
abbrev cX10_beast : ByteArray := prog_12_method_27_code
def yX10_beast : MethodName := ⟨RX10, "beast", "(II)I"⟩
abbrev cX10_sound : ByteArray := prog_12_method_28_code
def yX10_sound : MethodName := ⟨RX10, "sound", "(II)I"⟩
abbrev cX10_know : ByteArray := prog_12_method_29_code
def yX10_know : MethodName := ⟨RX10, "know", "()V"⟩
abbrev cX10_sing : ByteArray := prog_12_method_30_code
def yX10_sing : MethodName := ⟨RX10, "sing", "(I)V"⟩
abbrev cX10_goes : ByteArray := prog_12_method_31_code
def yX10_goes : MethodName := ⟨RX10, "goes", "(II)I"⟩
abbrev cX10_cuts : ByteArray := prog_12_method_32_code
def yX10_cuts : MethodName := ⟨RX10, "cuts", "(II)I"⟩
abbrev cX10_tunes : ByteArray := prog_12_method_33_code
def yX10_tunes : MethodName := ⟨RX10, "tunes", "(II)I"⟩
abbrev cX10_lays : ByteArray := prog_12_method_34_code
def yX10_lays : MethodName := ⟨RX10, "lays", "(I)I"⟩
abbrev cX10_rains : ByteArray := prog_12_method_35_code
def yX10_rains : MethodName := ⟨RX10, "rains", "(I)I"⟩
abbrev cX10_undo : ByteArray := prog_12_method_36_code
def yX10_undo : MethodName := ⟨RX10, "undo", "()I"⟩
abbrev cX10_areAlike : ByteArray := prog_12_method_37_code
def yX10_areAlike : MethodName := ⟨RX10, "areAlike", "(II)Z"⟩
abbrev cX10_alike : ByteArray := prog_12_method_38_code
def yX10_alike : MethodName := ⟨RX10, "alike", "()I"⟩
abbrev cX10_areApart : ByteArray := prog_12_method_39_code
def yX10_areApart : MethodName := ⟨RX10, "areApart", "(I)Z"⟩
abbrev cX10_areHeard : ByteArray := prog_12_method_40_code
def yX10_areHeard : MethodName := ⟨RX10, "areHeard", "(I)Z"⟩
abbrev cX10_fewest : ByteArray := prog_12_method_41_code
def yX10_fewest : MethodName := ⟨RX10, "fewest", "(I)I"⟩
abbrev cX10_now : ByteArray := prog_12_method_42_code
def yX10_now : MethodName := ⟨RX10, "now", "(I)I"⟩
abbrev cX10_song : ByteArray := prog_12_method_43_code
def yX10_song : MethodName := ⟨RX10, "song", "(I)I"⟩
abbrev cX10_who : ByteArray := prog_12_method_44_code
def yX10_who : MethodName := ⟨RX10, "who", "(I)I"⟩
abbrev cX10_hears : ByteArray := prog_12_method_45_code
def yX10_hears : MethodName := ⟨RX10, "hears", "(I)I"⟩
abbrev cX10_forget : ByteArray := prog_12_method_46_code
def yX10_forget : MethodName := ⟨RX10, "forget", "()I"⟩
abbrev cX10_ways : ByteArray := prog_12_method_47_code
def yX10_ways : MethodName := ⟨RX10, "ways", "(II)I"⟩
abbrev cX10_endsOf : ByteArray := prog_12_method_48_code
def yX10_endsOf : MethodName := ⟨RX10, "endsOf", "(I)I"⟩
abbrev cX10_ends : ByteArray := prog_12_method_49_code
def yX10_ends : MethodName := ⟨RX10, "ends", "(I)I"⟩
abbrev cX10_can : ByteArray := prog_12_method_50_code
def yX10_can : MethodName := ⟨RX10, "can", "()I"⟩
abbrev cX10_comesTo : ByteArray := prog_12_method_51_code
def yX10_comesTo : MethodName := ⟨RX10, "comesTo", "(II)Z"⟩
abbrev cX10_ask : ByteArray := prog_12_method_52_code
def yX10_ask : MethodName := ⟨RX10, "ask", "()I"⟩
abbrev cX10_costOf : ByteArray := prog_12_method_53_code
def yX10_costOf : MethodName := ⟨RX10, "costOf", "(II)I"⟩
abbrev cX10_measure : ByteArray := prog_12_method_54_code
def yX10_measure : MethodName := ⟨RX10, "measure", "(II)V"⟩
abbrev cX10_quiet : ByteArray := prog_12_method_55_code
def yX10_quiet : MethodName := ⟨RX10, "quiet", "(IIII)I"⟩
abbrev cX10_fifthsOf : ByteArray := prog_12_method_56_code
def yX10_fifthsOf : MethodName := ⟨RX10, "fifthsOf", "(I)I"⟩
abbrev cX10_fifths : ByteArray := prog_12_method_57_code
def yX10_fifths : MethodName := ⟨RX10, "fifths", "(I)I"⟩
abbrev cX10_milkBy : ByteArray := prog_12_method_58_code
def yX10_milkBy : MethodName := ⟨RX10, "milkBy", "(III)I"⟩
abbrev cX10_herd : ByteArray := prog_12_method_59_code
def yX10_herd : MethodName := ⟨RX10, "herd", "(I)I"⟩
abbrev cX10_isUnheard : ByteArray := prog_12_method_60_code
def yX10_isUnheard : MethodName := ⟨RX10, "isUnheard", "(IIII)Z"⟩
abbrev cX10_frost : ByteArray := prog_12_method_61_code
def yX10_frost : MethodName := ⟨RX10, "frost", "(IIIIII)I"⟩
abbrev cX10_bodiesOf : ByteArray := prog_12_method_62_code
def yX10_bodiesOf : MethodName := ⟨RX10, "bodiesOf", "(I)I"⟩
abbrev cX10_mark : ByteArray := prog_12_method_63_code
def yX10_mark : MethodName := ⟨RX10, "mark", "(II)I"⟩
abbrev cX10_trace : ByteArray := prog_12_method_64_code
def yX10_trace : MethodName := ⟨RX10, "trace", "()J"⟩
abbrev cX10_keep : ByteArray := prog_12_method_65_code
def yX10_keep : MethodName := ⟨RX10, "keep", "(I)I"⟩
abbrev cX10_back : ByteArray := prog_12_method_66_code
def yX10_back : MethodName := ⟨RX10, "back", "(I)I"⟩
abbrev cX10_count : ByteArray := prog_12_method_67_code
def yX10_count : MethodName := ⟨RX10, "count", "(I)I"⟩
def RJ6 : String := "java/lang/Integer"
def TJ6 : u_T := fun k => match k with
  | _ => ("", "", "", false)
def tyJ6 : Nat → FieldType := fun k => match k with
  | _ => .int
theorem nmJ6 : ∀ a, a < 0 → ∀ b, b < 0 → a ≠ b → (TJ6 a).2.1 ≠ (TJ6 b).2.1 := by decide +kernel
theorem tyJ6_ok : ∀ k, k < 0 → parseFieldDescriptor (TJ6 k).2.2.1 = some (tyJ6 k) := by decide +kernel
abbrev cJ6_bitCount_0f7a4 : ByteArray := prog_13_method_49_code
def yJ6_bitCount_0f7a4 : MethodName := ⟨RJ6, "bitCount", "(I)I"⟩
def RJ9 : String := "java/lang/Math"
def TJ9 : u_T := fun k => match k with
  | _ => ("", "", "", false)
def tyJ9 : Nat → FieldType := fun k => match k with
  | _ => .int
theorem nmJ9 : ∀ a, a < 0 → ∀ b, b < 0 → a ≠ b → (TJ9 a).2.1 ≠ (TJ9 b).2.1 := by decide +kernel
theorem tyJ9_ok : ∀ k, k < 0 → parseFieldDescriptor (TJ9 k).2.2.1 = some (tyJ9 k) := by decide +kernel
abbrev cJ9_abs_0f7a4 : ByteArray := prog_14_method_59_code
def yJ9_abs_0f7a4 : MethodName := ⟨RJ9, "abs", "(I)I"⟩
abbrev cJ9_max_7cf53 : ByteArray := prog_14_method_65_code
def yJ9_max_7cf53 : MethodName := ⟨RJ9, "max", "(II)I"⟩
abbrev cJ9_min_7cf53 : ByteArray := prog_14_method_69_code
def yJ9_min_7cf53 : MethodName := ⟨RJ9, "min", "(II)I"⟩
def RJ10 : String := "java/lang/System"
def TJ10 : u_T := fun k => match k with
  | _ => ("", "", "", false)
def tyJ10 : Nat → FieldType := fun k => match k with
  | _ => .int
theorem nmJ10 : ∀ a, a < 0 → ∀ b, b < 0 → a ≠ b → (TJ10 a).2.1 ≠ (TJ10 b).2.1 := by decide +kernel
theorem tyJ10_ok : ∀ k, k < 0 → parseFieldDescriptor (TJ10 k).2.2.1 = some (tyJ10 k) := by decide +kernel
def RL : String := "HarpFencesLaw"
abbrev cL_law : ByteArray := code
def yL_law : MethodName := ⟨RL, "law", "([I)Z"⟩
/-! the tables of the interpreter: own class id, vwCl, methods, pool resolution, layout -/
abbrev zCl : List vw_C := [(RX0, TX0, 5), (RX1, TX1, 2), (RX2, TX2, 7), (RX3, TX3, 3), (RX4, TX4, 12), (RX5, TX5, 3), (RX6, TX6, 6), (RX7, TX7, 7), (RX8, TX8, 7), (RX9, TX9, 11), (RX10, TX10, 32)]
def zRN : Nat → String := fun k => match k with
  | 0 => RX0
  | 1 => RX1
  | 2 => RX2
  | 3 => RX3
  | 4 => RX4
  | 5 => RX5
  | 6 => RX6
  | 7 => RX7
  | 8 => RX8
  | 9 => RX9
  | 10 => RX10
  | 11 => RJ6
  | _ => RL
def zTy : Nat → Nat → FieldType := fun k => match k with
  | 0 => tyX0
  | 1 => tyX1
  | 2 => tyX2
  | 3 => tyX3
  | 4 => tyX4
  | 5 => tyX5
  | 6 => tyX6
  | 7 => tyX7
  | 8 => tyX8
  | 9 => tyX9
  | 10 => tyX10
  | _ => fun _ => .float
abbrev zMe : Type := MethodName × ByteArray × Nat × Option FieldType × Nat × Nat × Nat
def zMT : List zMe := [
  (yX0_init, cX0_init, 2, none, 0, 1, 21),
  (yX0_alike, cX0_alike, 3, (some .int), 0, 3, 65),
  (yX0_fewestTuned, cX0_fewestTuned, 1, (some .int), 0, 3, 65),
  (yX0_fewestEars, cX0_fewestEars, 2, (some .int), 0, 2, 46),
  (yX0_partnerAlikes, cX0_partnerAlikes, 3, none, 0, 2, 43),
  (yX0_areAlike, cX0_areAlike, 3, (some .boolean), 0, 1, 21),
  (yX0_fewestOfEachTwo, cX0_fewestOfEachTwo, 4, (some .int), 0, 1, 23),
  (yX0_hasOneOfEachTwo, cX0_hasOneOfEachTwo, 4, (some .boolean), 0, 0, 0),
  (yX0_mostMilk, cX0_mostMilk, 1, (some .int), 0, 4, 91),
  (yX0_fieldInHerd, cX0_fieldInHerd, 5, (some .int), 0, 4, 91),
  (yX0_bestField, cX0_bestField, 4, (some .int), 0, 1, 23),
  (yX0_measureHerds, cX0_measureHerds, 4, none, 0, 3, 68),
  (yX0_milkWith, cX0_milkWith, 4, (some .int), 0, 0, 0),
  (yX1_init, cX1_init, 3, none, 1, 1, 20),
  (yX1_isString, cX1_isString, 2, (some .boolean), 1, 0, 0),
  (yX1_soundTo, cX1_soundTo, 3, (some .int), 1, 1, 21),
  (yX1_fifthsAt, cX1_fifthsAt, 5, (some .int), 1, 2, 44),
  (yX1_isStringAt, cX1_isStringAt, 3, (some .boolean), 1, 1, 22),
  (yX1_beastsThatSound, cX1_beastsThatSound, 5, (some .int), 1, 2, 43),
  (yX2_init, cX2_init, 2, none, 2, 1, 20),
  (yX2_takes, cX2_takes, 2, (some .boolean), 2, 0, 0),
  (yX2_rowsFrom, cX2_rowsFrom, 5, (some .int), 2, 3, 68),
  (yX2_crossAll, cX2_crossAll, 6, none, 2, 2, 43),
  (yX2_endsOf, cX2_endsOf, 4, (some .int), 2, 3, 68),
  (yX2_endsBehind, cX2_endsBehind, 6, (some .int), 2, 2, 43),
  (yX2_kindsThatCan, cX2_kindsThatCan, 3, (some .int), 2, 4, 91),
  (yX2_fenceToWatch, cX2_fenceToWatch, 5, (some .int), 2, 4, 91),
  (yX2_greatestCrowd, cX2_greatestCrowd, 6, (some .int), 2, 2, 43),
  (yX2_comesTo, cX2_comesTo, 3, (some .boolean), 2, 1, 21),
  (yX3_init, cX3_init, 1, none, 3, 3, 61),
  (yX3_take, cX3_take, 3, none, 3, 3, 69),
  (yX3_give, cX3_give, 3, none, 3, 3, 69),
  (yX4_init, cX4_init, 1, none, 4, 1, 20),
  (yX4_begin, cX4_begin, 1, none, 4, 0, 0),
  (yX4_copyFrom, cX4_copyFrom, 2, none, 4, 1, 26),
  (yX4_isAt, cX4_isAt, 3, (some .boolean), 4, 0, 0),
  (yX4_across, cX4_across, 3, (some .int), 4, 0, 0),
  (yX4_endBits, cX4_endBits, 2, (some .int), 4, 0, 0),
  (yX5_init, cX5_init, 2, none, 5, 2, 40),
  (yX5_note, cX5_note, 2, none, 5, 2, 47),
  (yX5_restore, cX5_restore, 2, none, 5, 2, 47),
  (yX5_copyFrom, cX5_copyFrom, 3, none, 5, 2, 47),
  (yX6_init, cX6_init, 2, none, 6, 1, 20),
  (yX6_fewestHeard, cX6_fewestHeard, 4, (some .int), 6, 4, 92),
  (yX6_fewestCrossings, cX6_fewestCrossings, 4, (some .int), 6, 4, 92),
  (yX6_firstFence, cX6_firstFence, 5, (some .int), 6, 4, 92),
  (yX6_costOf, cX6_costOf, 3, (some .int), 6, 2, 43),
  (yX6_measure, cX6_measure, 8, none, 6, 3, 65),
  (yX6_frostParts, cX6_frostParts, 4, (some .int), 6, 2, 43),
  (yX6_frostUnheard, cX6_frostUnheard, 8, (some .int), 6, 2, 47),
  (yX6_snappedFences, cX6_snappedFences, 4, (some .int), 6, 0, 0),
  (yX6_reaches, cX6_reaches, 7, (some .boolean), 6, 1, 21),
  (yX6_power, cX6_power, 4, (some .int), 6, 0, 0),
  (yX6_commonDivisor, cX6_commonDivisor, 6, (some .int), 6, 0, 0),
  (yX7_init, cX7_init, 1, none, 7, 1, 20),
  (yX7_begin, cX7_begin, 2, none, 7, 1, 26),
  (yX7_copyFrom, cX7_copyFrom, 2, none, 7, 1, 26),
  (yX7_sing, cX7_sing, 2, none, 7, 1, 26),
  (yX8_init, cX8_init, 1, none, 8, 1, 20),
  (yX8_takes, cX8_takes, 2, (some .boolean), 8, 0, 0),
  (yX8_tell, cX8_tell, 4, (some .int), 8, 5, 106),
  (yX8_tellsFields, cX8_tellsFields, 2, (some .boolean), 8, 4, 84),
  (yX8_tellsFence, cX8_tellsFence, 3, (some .boolean), 8, 4, 84),
  (yX8_tellsKind, cX8_tellsKind, 3, (some .boolean), 8, 4, 84),
  (yX8_tellsBeast, cX8_tellsBeast, 3, (some .boolean), 8, 4, 84),
  (yX8_tellsWet, cX8_tellsWet, 2, (some .boolean), 8, 4, 84),
  (yX8_number, cX8_number, 3, (some .boolean), 8, 3, 62),
  (yX8_stops, cX8_stops, 1, (some .boolean), 8, 3, 62),
  (yX8_step, cX8_step, 1, none, 8, 2, 42),
  (yX8_stepLetters, cX8_stepLetters, 1, none, 8, 1, 20),
  (yX8_stepNumber, cX8_stepNumber, 2, none, 8, 1, 21),
  (yX8_isLetter, cX8_isLetter, 1, (some .boolean), 8, 0, 0),
  (yX8_isDigit, cX8_isDigit, 1, (some .boolean), 8, 0, 0),
  (yX9_init, cX9_init, 2, none, 9, 4, 81),
  (yX9_type, cX9_type, 2, (some .int), 9, 1, 21),
  (yX9_clear, cX9_clear, 2, (some .int), 9, 0, 0),
  (yX9_downs, cX9_downs, 2, (some .int), 9, 6, 129),
  (yX9_fence, cX9_fence, 3, (some .int), 9, 1, 21),
  (yX9_kind, cX9_kind, 3, (some .int), 9, 1, 21),
  (yX9_beast, cX9_beast, 3, (some .int), 9, 1, 21),
  (yX9_sound, cX9_sound, 3, (some .int), 9, 2, 43),
  (yX9_goes, cX9_goes, 5, (some .int), 9, 3, 68),
  (yX9_cuts, cX9_cuts, 3, (some .int), 9, 3, 68),
  (yX9_tunes, cX9_tunes, 4, (some .int), 9, 3, 68),
  (yX9_lays, cX9_lays, 3, (some .int), 9, 3, 68),
  (yX9_rains, cX9_rains, 3, (some .int), 9, 3, 68),
  (yX9_undo, cX9_undo, 1, (some .int), 9, 3, 68),
  (yX9_now, cX9_now, 2, (some .int), 9, 4, 87),
  (yX9_song, cX9_song, 2, (some .int), 9, 0, 0),
  (yX9_who, cX9_who, 2, (some .int), 9, 3, 67),
  (yX9_hears, cX9_hears, 2, (some .int), 9, 1, 21),
  (yX9_forget, cX9_forget, 2, (some .int), 9, 0, 0),
  (yX9_ways, cX9_ways, 3, (some .int), 9, 4, 92),
  (yX9_ends, cX9_ends, 2, (some .int), 9, 4, 91),
  (yX9_can, cX9_can, 1, (some .int), 9, 5, 113),
  (yX9_ask, cX9_ask, 1, (some .int), 9, 5, 115),
  (yX9_quiet, cX9_quiet, 5, (some .int), 9, 5, 116),
  (yX9_fifths, cX9_fifths, 2, (some .int), 9, 3, 68),
  (yX9_herd, cX9_herd, 2, (some .int), 9, 5, 115),
  (yX9_frost, cX9_frost, 10, (some .int), 9, 3, 74),
  (yX9_mark, cX9_mark, 3, (some .int), 9, 5, 110),
  (yX9_keep, cX9_keep, 2, (some .int), 9, 4, 91),
  (yX9_back, cX9_back, 2, (some .int), 9, 4, 91),
  (yX9_count, cX9_count, 2, (some .int), 9, 0, 0),
  (yX9_trace, cX9_trace, 1, (some .long), 9, 0, 0),
  (yX9_beginAnew, cX9_beginAnew, 2, none, 9, 2, 47),
  (yX9_isField, cX9_isField, 2, (some .boolean), 9, 0, 0),
  (yX9_isFence, cX9_isFence, 2, (some .boolean), 9, 0, 0),
  (yX9_isKind, cX9_isKind, 2, (some .boolean), 9, 0, 0),
  (yX9_isBeast, cX9_isBeast, 2, (some .boolean), 9, 0, 0),
  (yX9_isImage, cX9_isImage, 1, (some .boolean), 9, 0, 0),
  (yX9_isFlag, cX9_isFlag, 1, (some .boolean), 9, 0, 0),
  (yX9_markString, cX9_markString, 2, (some .int), 9, 0, 0),
  (yX9_markBass, cX9_markBass, 2, (some .int), 9, 1, 21),
  (yX9_markTreble, cX9_markTreble, 2, (some .int), 9, 3, 68),
  (yX9_markBull, cX9_markBull, 2, (some .int), 9, 2, 42),
  (yX9_markLark, cX9_markLark, 2, (some .int), 9, 4, 89),
  (yX9_markPedal, cX9_markPedal, 2, (some .int), 9, 1, 21),
  (yX10_init, cX10_init, 1, none, 10, 1, 20),
  (yX10_in, cX10_in, 3, (some .boolean), 10, 0, 0),
  (yX10_has, cX10_has, 2, (some .boolean), 10, 0, 0),
  (yX10_type, cX10_type, 2, (some .int), 10, 1, 22),
  (yX10_clear, cX10_clear, 2, (some .int), 10, 0, 0),
  (yX10_here, cX10_here, 1, (some .int), 10, 0, 0),
  (yX10_step, cX10_step, 2, none, 10, 1, 22),
  (yX10_due, cX10_due, 2, none, 10, 2, 43),
  (yX10_number, cX10_number, 4, (some .int), 10, 3, 64),
  (yX10_item, cX10_item, 4, none, 10, 4, 87),
  (yX10_may, cX10_may, 3, (some .boolean), 10, 0, 0),
  (yX10_read, cX10_read, 3, none, 10, 5, 110),
  (yX10_downs, cX10_downs, 2, (some .int), 10, 6, 132),
  (yX10_isField, cX10_isField, 2, (some .boolean), 10, 1, 22),
  (yX10_isFence, cX10_isFence, 2, (some .boolean), 10, 1, 22),
  (yX10_isKind, cX10_isKind, 2, (some .boolean), 10, 1, 22),
  (yX10_isBeast, cX10_isBeast, 2, (some .boolean), 10, 1, 22),
  (yX10_soundOf, cX10_soundOf, 4, (some .int), 10, 1, 21),
  (yX10_isAt, cX10_isAt, 3, (some .boolean), 10, 0, 0),
  (yX10_across, cX10_across, 3, (some .int), 10, 0, 0),
  (yX10_isString, cX10_isString, 2, (some .boolean), 10, 1, 21),
  (yX10_bitsOf, cX10_bitsOf, 3, (some .int), 10, 0, 0),
  (yX10_allOf, cX10_allOf, 1, (some .int), 10, 0, 0),
  (yX10_fence, cX10_fence, 3, (some .int), 10, 2, 43),
  (yX10_kind, cX10_kind, 3, (some .int), 10, 2, 43),
  (yX10_beast, cX10_beast, 3, (some .int), 10, 2, 43),
  (yX10_sound, cX10_sound, 3, (some .int), 10, 2, 44),
  (yX10_know, cX10_know, 2, none, 10, 0, 0),
  (yX10_sing, cX10_sing, 3, none, 10, 0, 0),
  (yX10_goes, cX10_goes, 4, (some .int), 10, 2, 44),
  (yX10_cuts, cX10_cuts, 3, (some .int), 10, 2, 43),
  (yX10_tunes, cX10_tunes, 4, (some .int), 10, 2, 43),
  (yX10_lays, cX10_lays, 3, (some .int), 10, 1, 22),
  (yX10_rains, cX10_rains, 2, (some .int), 10, 1, 22),
  (yX10_undo, cX10_undo, 2, (some .int), 10, 0, 0),
  (yX10_areAlike, cX10_areAlike, 4, (some .boolean), 10, 2, 42),
  (yX10_alike, cX10_alike, 4, (some .int), 10, 3, 65),
  (yX10_areApart, cX10_areApart, 5, (some .boolean), 10, 3, 65),
  (yX10_areHeard, cX10_areHeard, 4, (some .boolean), 10, 2, 42),
  (yX10_fewest, cX10_fewest, 6, (some .int), 10, 4, 89),
  (yX10_now, cX10_now, 2, (some .int), 10, 5, 114),
  (yX10_song, cX10_song, 2, (some .int), 10, 1, 22),
  (yX10_who, cX10_who, 6, (some .int), 10, 2, 44),
  (yX10_hears, cX10_hears, 2, (some .int), 10, 1, 22),
  (yX10_forget, cX10_forget, 2, (some .int), 10, 0, 0),
  (yX10_ways, cX10_ways, 5, (some .int), 10, 2, 44),
  (yX10_endsOf, cX10_endsOf, 6, (some .int), 10, 2, 44),
  (yX10_ends, cX10_ends, 2, (some .int), 10, 3, 69),
  (yX10_can, cX10_can, 3, (some .int), 10, 3, 69),
  (yX10_comesTo, cX10_comesTo, 4, (some .boolean), 10, 3, 69),
  (yX10_ask, cX10_ask, 8, (some .int), 10, 4, 92),
  (yX10_costOf, cX10_costOf, 3, (some .int), 10, 2, 44),
  (yX10_measure, cX10_measure, 7, none, 10, 3, 66),
  (yX10_quiet, cX10_quiet, 8, (some .int), 10, 4, 92),
  (yX10_fifthsOf, cX10_fifthsOf, 7, (some .int), 10, 2, 42),
  (yX10_fifths, cX10_fifths, 2, (some .int), 10, 3, 68),
  (yX10_milkBy, cX10_milkBy, 5, (some .int), 10, 3, 68),
  (yX10_herd, cX10_herd, 7, (some .int), 10, 4, 92),
  (yX10_isUnheard, cX10_isUnheard, 10, (some .boolean), 10, 2, 44),
  (yX10_frost, cX10_frost, 13, (some .int), 10, 3, 73),
  (yX10_bodiesOf, cX10_bodiesOf, 1, (some .int), 10, 0, 0),
  (yX10_mark, cX10_mark, 7, (some .int), 10, 3, 68),
  (yX10_trace, cX10_trace, 1, (some .long), 10, 0, 0),
  (yX10_keep, cX10_keep, 3, (some .int), 10, 1, 22),
  (yX10_back, cX10_back, 3, (some .int), 10, 1, 22),
  (yX10_count, cX10_count, 2, (some .int), 10, 0, 0),
  (yJ6_bitCount_0f7a4, cJ6_bitCount_0f7a4, 1, (some .int), 11, 0, 0),
  (yL_law, cL_law, 4, (some .boolean), 12, 9, 310)]
def zM (k : Nat) : Option zMe := zMT[k]?
def zMP : List (Nat × Nat × Nat × Nat × Nat) := [(346, 345, 9999, 9999, 75), (616, 614, 9999, 615, 75), (634, 632, 9999, 633, 75), (646, 644, 9999, 645, 75), (620, 619, 9999, 14, 75), (624, 623, 9999, 15, 75), (638, 637, 9999, 16, 75), (642, 641, 9999, 17, 75), (781, 779, 9999, 780, 75), (794, 792, 9999, 793, 75), (798, 797, 9999, 28, 75), (785, 784, 9999, 26, 75), (790, 789, 9999, 27, 75), (252, 251, 9999, 9999, 71), (547, 545, 9999, 546, 71), (543, 541, 9999, 542, 71), (766, 764, 9999, 765, 71), (770, 769, 9999, 25, 71), (658, 656, 9999, 657, 71), (292, 291, 9999, 9999, 73), (668, 666, 9999, 667, 73), (684, 682, 9999, 683, 73), (688, 687, 9999, 19, 73), (698, 696, 9999, 697, 73), (702, 701, 9999, 20, 73), (710, 708, 9999, 709, 73), (719, 717, 9999, 718, 73), (723, 722, 9999, 21, 73), (727, 726, 9999, 22, 73), (370, 369, 9999, 9999, 77), (871, 869, 9999, 870, 77), (884, 882, 9999, 883, 77), (123, 122, 9999, 9999, 69), (390, 388, 9999, 389, 69), (509, 507, 9999, 508, 69), (556, 554, 9999, 555, 69), (569, 567, 9999, 568, 69), (629, 627, 9999, 628, 69), (270, 269, 9999, 9999, 72), (560, 558, 9999, 559, 72), (607, 605, 9999, 606, 72), (876, 874, 9999, 875, 72), (321, 320, 9999, 9999, 74), (737, 735, 9999, 736, 74), (752, 750, 9999, 751, 74), (756, 754, 9999, 755, 74), (746, 745, 9999, 24, 74), (741, 740, 9999, 23, 74), (806, 804, 9999, 805, 74), (813, 811, 9999, 812, 74), (818, 817, 9999, 29, 74), (822, 821, 9999, 30, 74), (809, 9999, 808, 9999, 74), (826, 9999, 825, 9999, 74), (210, 209, 9999, 9999, 70), (398, 396, 9999, 397, 70), (564, 562, 9999, 563, 70), (573, 571, 9999, 572, 70), (93, 92, 9999, 9999, 68), (443, 441, 9999, 442, 68), (455, 453, 9999, 454, 68), (481, 480, 9999, 4, 68), (489, 488, 9999, 6, 68), (493, 492, 9999, 7, 68), (497, 496, 9999, 8, 68), (501, 500, 9999, 9, 68), (485, 484, 9999, 5, 68), (505, 504, 9999, 10, 68), (460, 459, 9999, 1, 68), (467, 466, 9999, 2, 68), (474, 473, 9999, 3, 68), (463, 9999, 462, 9999, 68), (470, 9999, 469, 9999, 68), (85, 84, 9999, 9999, 67), (439, 437, 9999, 438, 67), (447, 445, 9999, 446, 67), (451, 449, 9999, 450, 67), (514, 512, 9999, 513, 67), (522, 520, 9999, 521, 67), (531, 529, 9999, 530, 67), (539, 537, 9999, 538, 67), (552, 550, 9999, 551, 67), (578, 576, 9999, 577, 67), (591, 589, 9999, 590, 67), (595, 593, 9999, 594, 67), (599, 597, 9999, 598, 67), (603, 601, 9999, 602, 67), (612, 610, 9999, 611, 67), (650, 648, 9999, 649, 67), (654, 652, 9999, 653, 67), (664, 662, 9999, 663, 67), (672, 670, 9999, 671, 67), (676, 674, 9999, 675, 67), (694, 692, 9999, 693, 67), (706, 704, 9999, 705, 67), (715, 713, 9999, 714, 67), (733, 731, 9999, 732, 67), (762, 760, 9999, 761, 67), (777, 775, 9999, 776, 67), (802, 800, 9999, 801, 67), (831, 829, 9999, 830, 67), (864, 862, 9999, 863, 67), (880, 878, 9999, 879, 67), (888, 886, 9999, 887, 67), (892, 890, 9999, 891, 67), (394, 393, 9999, 0, 67), (680, 679, 9999, 18, 67), (518, 517, 9999, 11, 67), (526, 525, 9999, 12, 67), (535, 534, 9999, 13, 67), (867, 9999, 866, 9999, 67), (581, 9999, 580, 9999, 67), (835, 834, 9999, 31, 67), (839, 838, 9999, 32, 67), (844, 843, 9999, 33, 67), (849, 848, 9999, 34, 67), (854, 853, 9999, 35, 67), (859, 858, 9999, 36, 67), (897, 896, 9999, 9999, 79), (1004, 9999, 1003, 9999, 79), (1051, 9999, 1050, 9999, 79), (1001, 999, 9999, 1000, 79), (1008, 1006, 9999, 1007, 79), (1024, 1023, 9999, 39, 79), (1020, 1019, 9999, 38, 79), (1032, 1031, 9999, 41, 79), (1040, 1039, 9999, 43, 79), (1036, 1035, 9999, 42, 79), (1028, 1027, 9999, 40, 79), (1016, 1015, 9999, 37, 79), (1012, 1010, 9999, 1011, 79), (1174, 1173, 9999, 58, 79), (1048, 1047, 9999, 44, 79), (1059, 1058, 9999, 45, 79), (1068, 1067, 9999, 46, 79), (1076, 1075, 9999, 47, 79), (1084, 1083, 9999, 48, 79), (1092, 1091, 9999, 50, 79), (1138, 1137, 9999, 54, 79), (1103, 9999, 1102, 9999, 79), (1114, 9999, 1113, 9999, 79), (1044, 1042, 9999, 1043, 79), (1055, 1053, 9999, 1054, 79), (1064, 1062, 9999, 1063, 79), (1072, 1070, 9999, 1071, 79), (1088, 1087, 9999, 49, 79), (1096, 1095, 9999, 51, 79), (1080, 1078, 9999, 1079, 79), (1100, 1098, 9999, 1099, 79), (1107, 1105, 9999, 1106, 79), (1111, 1109, 9999, 1110, 79), (1118, 1116, 9999, 1117, 79), (1122, 1120, 9999, 1121, 79), (1134, 1133, 9999, 53, 79), (1130, 1129, 9999, 52, 79), (1146, 1145, 9999, 56, 79), (1150, 1149, 9999, 57, 79), (1142, 1141, 9999, 55, 79), (1126, 1124, 9999, 1125, 79), (1154, 1152, 9999, 1153, 79), (1158, 1156, 9999, 1157, 79), (1162, 1160, 9999, 1161, 79), (1166, 1164, 9999, 1165, 79), (1170, 1168, 9999, 1169, 79), (1183, 1182, 9999, 59, 79), (1179, 1177, 9999, 1178, 79), (1187, 1185, 9999, 1186, 79), (1195, 1194, 9999, 60, 79), (1191, 1189, 9999, 1190, 79), (1208, 1207, 9999, 62, 79), (1203, 1202, 9999, 61, 79), (1199, 1197, 9999, 1198, 79), (1216, 1215, 9999, 63, 79), (1212, 1210, 9999, 1211, 79), (1224, 1223, 9999, 64, 79), (1220, 1218, 9999, 1219, 79), (1232, 1231, 9999, 65, 79), (1228, 1226, 9999, 1227, 79), (1239, 9999, 1238, 9999, 79), (1236, 1234, 9999, 1235, 79), (1244, 1242, 9999, 1243, 79), (1248, 1246, 9999, 1247, 79), (1252, 1250, 9999, 1251, 79), (1256, 1254, 9999, 1255, 79), (584, 9999, 583, 9999, 80), (9999, 9999, 9999, 9999, 66)]
def zFL : List (Nat × Nat × Nat × Nat × Nat) := [(0, 15, 0, 2, 353), (0, 21, 0, 3, 354), (0, 24, 0, 4, 355), (0, 27, 0, 0, 351), (0, 31, 1, 0, 256), (0, 37, 0, 1, 352), (0, 41, 4, 1, 132), (0, 56, 4, 0, 127), (0, 63, 4, 2, 140), (0, 66, 4, 3, 146), (0, 73, 1, 1, 259), (0, 77, 7, 1, 218), (0, 101, 4, 8, 168), (0, 104, 4, 7, 164), (0, 107, 4, 9, 174), (1, 9, 1, 0, 254), (1, 15, 1, 1, 258), (1, 19, 7, 1, 216), (1, 25, 7, 4, 224), (1, 33, 7, 5, 228), (1, 36, 4, 6, 158), (1, 41, 7, 6, 231), (1, 50, 4, 1, 134), (1, 64, 4, 8, 167), (1, 67, 7, 0, 213), (1, 70, 4, 9, 171), (2, 9, 2, 2, 296), (2, 15, 2, 3, 297), (2, 18, 2, 4, 298), (2, 21, 2, 5, 299), (2, 24, 2, 0, 294), (2, 28, 1, 0, 257), (2, 34, 2, 1, 295), (2, 35, 2, 6, 300), (2, 39, 4, 0, 126), (2, 49, 4, 1, 135), (2, 56, 4, 2, 139), (2, 59, 4, 3, 145), (2, 66, 4, 5, 155), (3, 10, 3, 0, 376), (3, 19, 3, 1, 377), (3, 30, 3, 2, 378), (4, 9, 4, 2, 138), (4, 15, 4, 3, 144), (4, 18, 4, 4, 150), (4, 21, 4, 6, 157), (4, 24, 4, 7, 161), (4, 27, 4, 9, 170), (4, 30, 4, 10, 175), (4, 33, 4, 0, 125), (4, 37, 4, 1, 131), (4, 40, 4, 5, 153), (4, 43, 4, 8, 165), (4, 46, 4, 11, 178), (5, 11, 5, 0, 275), (5, 18, 5, 1, 276), (5, 26, 5, 2, 277), (6, 9, 6, 2, 325), (6, 15, 6, 3, 326), (6, 18, 6, 0, 323), (6, 22, 1, 0, 255), (6, 28, 6, 1, 324), (6, 34, 4, 1, 136), (6, 54, 4, 0, 129), (6, 57, 4, 2, 143), (6, 60, 4, 3, 149), (6, 68, 6, 5, 328), (6, 71, 6, 4, 327), (6, 74, 1, 1, 260), (6, 78, 7, 1, 219), (7, 9, 7, 0, 212), (7, 15, 7, 1, 215), (7, 18, 7, 2, 220), (7, 21, 4, 10, 176), (7, 30, 4, 4, 151), (7, 31, 7, 3, 222), (7, 35, 7, 4, 225), (7, 38, 7, 5, 227), (7, 41, 4, 11, 179), (7, 44, 7, 6, 230), (8, 9, 8, 0, 95), (8, 15, 8, 1, 96), (8, 24, 8, 2, 98), (8, 27, 8, 6, 102), (8, 34, 8, 3, 99), (8, 37, 8, 5, 101), (8, 44, 4, 1, 133), (8, 50, 4, 5, 154), (8, 56, 4, 8, 166), (8, 69, 8, 4, 100), (8, 76, 4, 0, 128), (8, 79, 4, 2, 141), (8, 82, 4, 3, 148), (8, 85, 4, 4, 152), (8, 88, 4, 6, 159), (8, 91, 4, 7, 162), (8, 94, 4, 9, 172), (8, 97, 4, 10, 177), (8, 100, 4, 11, 180), (9, 10, 9, 0, 402), (9, 19, 9, 1, 403), (9, 23, 9, 2, 404), (9, 29, 9, 3, 405), (9, 38, 9, 4, 406), (9, 45, 9, 5, 407), (9, 51, 9, 6, 408), (9, 60, 9, 7, 409), (9, 67, 9, 8, 410), (9, 74, 9, 9, 411), (9, 89, 8, 1, 97), (9, 104, 4, 2, 142), (9, 108, 4, 3, 147), (9, 111, 7, 1, 217), (9, 114, 7, 4, 226), (9, 117, 7, 5, 229), (9, 124, 4, 6, 160), (9, 127, 4, 7, 163), (9, 133, 4, 9, 173), (9, 136, 7, 0, 214), (9, 167, 4, 1, 137), (9, 170, 7, 6, 232), (9, 173, 5, 2, 278), (9, 179, 7, 3, 223), (9, 192, 7, 2, 221), (9, 199, 2, 6, 301), (9, 230, 4, 8, 169), (9, 233, 4, 0, 130), (9, 281, 3, 2, 379), (9, 288, 4, 5, 156), (9, 291, 9, 10, 412), (10, 7, 10, 0, 899), (10, 13, 10, 2, 901), (10, 17, 10, 3, 902), (10, 20, 10, 4, 903), (10, 23, 10, 5, 904), (10, 26, 10, 6, 905), (10, 29, 10, 7, 906), (10, 32, 10, 8, 907), (10, 35, 10, 9, 908), (10, 38, 10, 10, 909), (10, 41, 10, 11, 910), (10, 44, 10, 12, 911), (10, 47, 10, 13, 912), (10, 50, 10, 20, 919), (10, 53, 10, 21, 920), (10, 56, 10, 22, 921), (10, 59, 10, 23, 922), (10, 62, 10, 24, 923), (10, 66, 10, 25, 924), (10, 69, 10, 27, 926), (10, 72, 10, 28, 927), (10, 75, 10, 29, 928), (10, 78, 10, 30, 929), (10, 85, 10, 1, 900), (10, 89, 10, 14, 913), (10, 96, 10, 15, 914), (10, 99, 10, 17, 916), (10, 102, 10, 16, 915), (10, 105, 10, 18, 917), (10, 120, 10, 19, 918), (10, 134, 10, 26, 925), (10, 224, 10, 31, 930)]
def zML : List (Nat × Nat × Nat × Nat × Nat × Nat) := [(0, 3, 0, 4, 0, 347), (0, 9, 0, 5, 2, 348), (0, 38, 4, 0, 0, 617), (0, 47, 184, 1, 1, 630), (0, 53, 6, 0, 1, 635), (0, 59, 14, 0, 1, 625), (0, 69, 5, 0, 2, 621), (0, 82, 37, 0, 1, 626), (0, 85, 7, 0, 2, 639), (0, 88, 11, 0, 0, 782), (0, 91, 10, 0, 2, 795), (0, 94, 12, 0, 3, 787), (0, 98, 16, 0, 1, 786), (1, 3, 0, 4, 0, 253), (1, 29, 14, 0, 1, 544), (1, 44, 0, 5, 2, 548), (1, 53, 17, 0, 2, 767), (1, 57, 0, 7, 1, 771), (1, 61, 35, 0, 2, 659), (1, 73, 15, 0, 2, 660), (2, 3, 0, 4, 0, 293), (2, 44, 22, 0, 2, 685), (2, 52, 15, 0, 2, 689), (2, 62, 24, 0, 3, 699), (2, 69, 23, 0, 1, 711), (2, 73, 27, 0, 1, 720), (2, 76, 28, 0, 2, 724), (2, 80, 0, 5, 2, 729), (2, 85, 37, 0, 1, 728), (3, 1, 0, 4, 0, 371), (3, 9, 54, 3, 0, 373), (3, 18, 38, 2, 0, 375), (3, 23, 56, 0, 1, 872), (3, 27, 41, 0, 1, 873), (4, 3, 0, 4, 0, 124), (4, 49, 0, 8, 5, 510), (5, 3, 0, 4, 0, 271), (5, 17, 54, 3, 0, 274), (5, 22, 56, 0, 1, 561), (5, 29, 0, 6, 2, 565), (5, 35, 0, 5, 2, 608), (6, 3, 0, 4, 0, 322), (6, 29, 47, 0, 2, 738), (6, 40, 35, 0, 2, 757), (6, 44, 36, 0, 2, 758), (6, 48, 46, 0, 2, 743), (6, 51, 15, 0, 2, 747), (6, 63, 0, 6, 2, 748), (6, 83, 52, 1, 2, 807), (6, 86, 184, 1, 1, 814), (6, 92, 50, 0, 1, 815), (6, 95, 51, 0, 3, 819), (6, 99, 37, 0, 1, 823), (7, 3, 0, 4, 0, 211), (7, 24, 0, 8, 5, 399), (7, 45, 0, 6, 2, 574), (8, 3, 0, 4, 0, 94), (8, 19, 33, 0, 0, 456), (8, 31, 68, 0, 0, 457), (8, 40, 61, 0, 1, 478), (8, 47, 62, 0, 1, 486), (8, 53, 63, 0, 1, 490), (8, 59, 64, 0, 1, 494), (8, 62, 65, 0, 1, 498), (8, 65, 67, 0, 0, 502), (8, 72, 66, 0, 2, 482), (8, 103, 71, 1, 1, 461), (8, 107, 69, 0, 0, 464), (8, 110, 72, 1, 1, 468), (8, 113, 70, 0, 0, 471), (8, 116, 0, 6, 2, 475), (9, 1, 0, 4, 0, 86), (9, 9, 58, 3, 0, 91), (9, 18, 32, 3, 0, 121), (9, 28, 54, 3, 0, 208), (9, 35, 13, 2, 2, 250), (9, 44, 38, 2, 0, 268), (9, 57, 19, 2, 1, 290), (9, 66, 42, 2, 1, 319), (9, 73, 0, 2, 1, 344), (9, 78, 29, 3, 0, 368), (9, 79, 33, 0, 0, 387), (9, 82, 105, 0, 0, 391), (9, 85, 59, 0, 1, 440), (9, 93, 60, 0, 1, 452), (9, 97, 34, 0, 1, 506), (9, 101, 107, 0, 1, 515), (9, 120, 108, 0, 1, 523), (9, 130, 109, 0, 1, 532), (9, 139, 15, 0, 2, 540), (9, 143, 35, 0, 2, 553), (9, 147, 39, 0, 1, 557), (9, 151, 36, 0, 2, 566), (9, 154, 57, 0, 1, 570), (9, 158, 111, 1, 1, 579), (9, 161, 184, 1, 1, 582), (9, 176, 40, 0, 1, 604), (9, 182, 1, 0, 0, 613), (9, 186, 2, 0, 0, 631), (9, 189, 3, 0, 0, 643), (9, 195, 18, 0, 1, 655), (9, 198, 20, 0, 1, 665), (9, 202, 106, 0, 1, 677), (9, 205, 21, 0, 2, 681), (9, 208, 23, 0, 1, 695), (9, 211, 25, 0, 0, 707), (9, 214, 26, 0, 0, 716), (9, 217, 43, 0, 3, 734), (9, 221, 44, 0, 3, 749), (9, 224, 45, 0, 3, 753), (9, 227, 16, 0, 1, 763), (9, 236, 8, 0, 0, 778), (9, 239, 9, 0, 1, 791), (9, 242, 48, 0, 2, 803), (9, 245, 49, 0, 3, 810), (9, 248, 53, 1, 2, 824), (9, 251, 0, 5, 2, 827), (9, 256, 112, 0, 1, 832), (9, 259, 113, 0, 1, 836), (9, 262, 114, 0, 1, 841), (9, 265, 115, 0, 1, 846), (9, 268, 116, 0, 1, 851), (9, 271, 117, 0, 1, 856), (9, 274, 110, 1, 1, 865), (9, 277, 30, 0, 2, 868), (9, 285, 31, 0, 2, 881), (9, 295, 55, 0, 1, 395), (10, 1, 0, 4, 0, 898), (10, 81, 119, 1, 3, 1002), (10, 92, 123, 0, 0, 1021), (10, 109, 124, 0, 0, 1017), (10, 112, 125, 0, 1, 1029), (10, 116, 126, 0, 2, 1037), (10, 123, 128, 0, 2, 1025), (10, 127, 127, 0, 1, 1033), (10, 131, 129, 0, 0, 1013), (10, 137, 120, 1, 2, 1049), (10, 141, 132, 0, 1, 1045), (10, 145, 133, 0, 1, 1056), (10, 149, 134, 0, 1, 1065), (10, 152, 135, 0, 2, 1073), (10, 155, 136, 0, 2, 1081), (10, 158, 145, 0, 0, 1085), (10, 161, 137, 0, 2, 1089), (10, 164, 146, 0, 1, 1093), (10, 167, 139, 1, 1, 1101), (10, 171, 140, 1, 1, 1112), (10, 174, 138, 0, 1, 1135), (10, 177, 153, 0, 2, 1131), (10, 180, 155, 0, 1, 1143), (10, 183, 156, 0, 1, 1147), (10, 186, 154, 0, 0, 1127), (10, 189, 157, 0, 1, 1139), (10, 192, 131, 0, 1, 1171), (10, 196, 164, 0, 1, 1180), (10, 199, 167, 0, 2, 1192), (10, 203, 169, 0, 2, 1205), (10, 206, 170, 0, 2, 1200), (10, 210, 172, 0, 1, 1213), (10, 213, 174, 0, 3, 1221), (10, 217, 176, 0, 4, 1229), (10, 221, 178, 1, 1, 1237), (12, 9, 73, 2, 0, 83), (12, 12, 118, 2, 0, 895), (12, 13, 74, 0, 1, 436), (12, 17, 121, 0, 1, 998), (12, 18, 75, 0, 0, 444), (12, 22, 122, 0, 0, 1005), (12, 23, 76, 0, 0, 448), (12, 26, 130, 0, 0, 1009), (12, 27, 77, 0, 2, 511), (12, 31, 141, 0, 2, 1041), (12, 32, 78, 0, 2, 519), (12, 35, 142, 0, 2, 1052), (12, 36, 79, 0, 2, 528), (12, 39, 143, 0, 2, 1061), (12, 40, 80, 0, 2, 536), (12, 43, 144, 0, 2, 1069), (12, 44, 81, 0, 2, 549), (12, 47, 147, 0, 2, 1077), (12, 48, 82, 0, 2, 575), (12, 51, 148, 0, 2, 1097), (12, 52, 83, 0, 2, 588), (12, 55, 149, 0, 2, 1104), (12, 56, 84, 0, 1, 592), (12, 59, 150, 0, 1, 1108), (12, 60, 85, 0, 1, 596), (12, 63, 151, 0, 1, 1115), (12, 64, 86, 0, 0, 600), (12, 67, 152, 0, 0, 1119), (12, 68, 87, 0, 1, 609), (12, 71, 158, 0, 1, 1123), (12, 72, 88, 0, 1, 647), (12, 75, 159, 0, 1, 1151), (12, 76, 89, 0, 1, 651), (12, 79, 160, 0, 1, 1155), (12, 80, 90, 0, 1, 661), (12, 83, 161, 0, 1, 1159), (12, 84, 91, 0, 0, 669), (12, 87, 162, 0, 0, 1163), (12, 88, 92, 0, 2, 673), (12, 91, 163, 0, 2, 1167), (12, 92, 93, 0, 1, 691), (12, 95, 165, 0, 1, 1176), (12, 96, 94, 0, 0, 703), (12, 99, 166, 0, 0, 1184), (12, 100, 95, 0, 0, 712), (12, 103, 168, 0, 0, 1188), (12, 104, 96, 0, 4, 730), (12, 108, 171, 0, 4, 1196), (12, 109, 97, 0, 1, 759), (12, 112, 173, 0, 1, 1209), (12, 113, 98, 0, 1, 774), (12, 116, 175, 0, 1, 1217), (12, 117, 99, 0, 6, 799), (12, 121, 177, 0, 6, 1225), (12, 122, 100, 0, 2, 828), (12, 125, 179, 0, 2, 1233), (12, 126, 101, 0, 1, 861), (12, 129, 181, 0, 1, 1245), (12, 130, 102, 0, 1, 877), (12, 133, 182, 0, 1, 1249), (12, 134, 103, 0, 1, 885), (12, 137, 183, 0, 1, 1253), (12, 138, 104, 0, 0, 889), (12, 142, 180, 0, 0, 1241)]
def zCL : List (Nat × Nat × Nat × Nat) := [(3, 7, 7, 372), (3, 16, 5, 374), (5, 9, 7, 272), (9, 7, 8, 89), (9, 16, 4, 119), (9, 26, 7, 206), (9, 33, 1, 248), (9, 42, 5, 266), (9, 49, 3, 286), (9, 55, 2, 288), (9, 64, 6, 317), (9, 71, 0, 342), (12, 7, 9, 81), (12, 10, 10, 893)]
def zIL : List (Nat × Nat × Int32 × Nat) := [(2, 48, 1000003, 690), (6, 33, 1000000, 742), (9, 123, -1000000, 527), (10, 148, -1000000, 1060), (10, 195, 1000003, 1175), (10, 202, 1000000, 1204), (11, 265, 1431655765, 585), (11, 266, 858993459, 586), (11, 267, 252645135, 587)]
def zLL : List (Nat × Nat × Int64 × Nat) := [(9, 297, 10, 840), (9, 299, 100, 845), (9, 301, 1000, 850), (9, 303, 10000, 855), (9, 305, 100000, 860), (10, 228, 10, 1240)]
def zF (o i : Nat) : Option (Nat × Nat) := (zFL.find? (fun e => e.1 == o && e.2.1 == i)).map (fun e => (e.2.2.1, e.2.2.2.1))
/-- of a method reference: the method, the kind of call, how many arguments -/
def zMr (o i : Nat) : Option (Nat × Nat × Nat) := (zML.find? (fun e => e.1 == o && e.2.1 == i)).map (fun e => (e.2.2.1, e.2.2.2.1, e.2.2.2.2.1))
def zC (o i : Nat) : Option Nat := (zCL.find? (fun e => e.1 == o && e.2.1 == i)).map (fun e => e.2.2.1)
def zI (o i : Nat) : Option Int32 := (zIL.find? (fun e => e.1 == o && e.2.1 == i)).map (fun e => e.2.2.1)
def zL (o i : Nat) : Option Int64 := (zLL.find? (fun e => e.1 == o && e.2.1 == i)).map (fun e => e.2.2.1)
/-- the plan of the cells: kind and length -/
def zKL : List (Nat × Nat) := [(9, 11), (8, 7), (100, 150), (4, 12), (100, 8), (100, 8), (100, 8), (100, 4), (100, 4), (100, 6), (100, 6), (4, 12), (100, 8), (100, 8), (100, 8), (100, 4), (100, 4), (100, 6), (100, 6), (7, 7), (100, 6), (100, 8), (100, 12), (1, 2), (5, 3), (103, 10), (7, 7), (100, 6), (100, 8), (100, 12), (7, 7), (100, 6), (100, 8), (100, 12), (7, 7), (100, 6), (100, 8), (100, 12), (7, 7), (100, 6), (100, 8), (100, 12), (7, 7), (100, 6), (100, 8), (100, 12), (7, 7), (100, 6), (100, 8), (100, 12), (7, 7), (100, 6), (100, 8), (100, 12), (7, 7), (100, 6), (100, 8), (100, 12), (7, 7), (100, 6), (100, 8), (100, 12), (7, 7), (100, 6), (100, 8), (100, 12), (104, 2), (2, 7), (100, 6), (100, 4), (100, 8), (100, 8), (6, 6), (100, 8), (100, 8), (0, 5), (100, 8), (100, 8), (100, 256), (3, 3), (7, 7), (100, 6), (100, 8), (100, 12), (5, 3), (103, 10), (7, 7), (100, 6), (100, 8), (100, 12), (7, 7), (100, 6), (100, 8), (100, 12), (7, 7), (100, 6), (100, 8), (100, 12), (7, 7), (100, 6), (100, 8), (100, 12), (7, 7), (100, 6), (100, 8), (100, 12), (7, 7), (100, 6), (100, 8), (100, 12), (7, 7), (100, 6), (100, 8), (100, 12), (7, 7), (100, 6), (100, 8), (100, 12), (7, 7), (100, 6), (100, 8), (100, 12), (7, 7), (100, 6), (100, 8), (100, 12), (3, 3), (7, 7), (100, 6), (100, 8), (100, 12), (5, 3), (103, 10), (7, 7), (100, 6), (100, 8), (100, 12), (7, 7), (100, 6), (100, 8), (100, 12), (7, 7), (100, 6), (100, 8), (100, 12), (7, 7), (100, 6), (100, 8), (100, 12), (7, 7), (100, 6), (100, 8), (100, 12), (7, 7), (100, 6), (100, 8), (100, 12), (7, 7), (100, 6), (100, 8), (100, 12), (7, 7), (100, 6), (100, 8), (100, 12), (7, 7), (100, 6), (100, 8), (100, 12), (7, 7), (100, 6), (100, 8), (100, 12), (10, 32), (101, 150), (100, 2), (100, 2), (100, 16), (100, 16), (100, 16), (100, 2), (100, 8), (100, 8), (100, 2), (100, 12), (100, 12), (100, 2), (100, 30), (100, 3), (100, 900), (100, 60), (102, 2), (100, 6), (100, 8), (100, 8), (100, 8), (100, 1792)]
def zK (a : Nat) : Nat × Nat := zKL.getD a (999, 0)
abbrev zNN : Nat := 197
end
section
/-! THE INTERPRETER: cells by their number (cell a lies at the address sigma + a), ints, references and longs in three tables; the script is the value '.retAddr _' -/
abbrev zHp : Type := Nat × (Nat → Nat → Int32) × (Nat → Nat → Option Nat) × (Nat → Nat → Int64)
abbrev zSt : Type := Nat × Nat × List (Option Value) × List Value × zHp
abbrev zRs : Type := Value × zHp
abbrev zAc : Type := zRs ⊕ (zSt ⊕ (zSt × (zRs → zSt)))
abbrev zScr : Type := Nat × (Nat → Int32)
def zU {α : Type} (f : Nat → Nat → α) (a j : Nat) (v : α) : Nat → Nat → α := fun q t => if q = a ∧ t = j then v else f q t
def zCr {α : Type} (f : Nat → Nat → α) (a : Nat) (d : α) : Nat → Nat → α := fun q t => if q = a then d else f q t
/-- a row of ints copied into another one -/
def zCp (f : Nat → Nat → Int32) (a0 a sp dp n : Nat) : Nat → Nat → Int32 := fun q t => if q = a then va_cpy (f a0) (f a) sp dp n t else f q t
def zTg (pc : Nat) (off : Int) : Option Nat := match (pc : Int) + off with
  | .ofNat t => some t
  | _ => none
def zgo (k pc : Nat) (ls : List (Option Value)) (st : List Value) (h : zHp) : Option zAc := some (.inr (.inl (k, pc, ls, st, h)))
def zjp (k : Nat) (t : Option Nat) (ls : List (Option Value)) (st : List Value) (h : zHp) : Option zAc := match t with
  | some t => zgo k t ls st h
  | none => none
def zcat (st : List Value) : Nat := (st.map fun v => v.category).sum
def zok (n a c : Nat) : Bool := decide (a < n) && (zK a).1 == c
/-- what a field's type asks: 0 an int, 3 a boolean, 1 a long, 2 a reference -/
def zcl : FieldType → Nat
  | .int => 0
  | .boolean => 3
  | .long => 1
  | .object _ => 2
  | .array _ => 2
  | _ => 9
/-- where the one method with a long keeps it -/
def zLA (k : Nat) : Nat := match (zMT[k]?).map (fun M => M.1.desc == "(II)I" && M.1.name == "mark" && M.2.2.2.2.1 == 10) with
  | some true => 4
  | _ => 99
def zset (k : Nat) (ls : List (Option Value)) (j : Nat) (v : Value) : Option (List (Option Value)) := if j = zLA k ∨ j = zLA k + 1 ∨ ls.length ≤ j then none else some (ls.set j (some v))
def zent (as : List Value) (n : Nat) : List (Option Value) := as.map some ++ List.replicate (n - as.length) none
def zcat1 (as : List Value) : Bool := as.all fun v => v.category == 1
def zcall (k : Nat) (M : zMe) (pc : Nat) (ls : List (Option Value)) (as rest : List Value) (h : zHp) (k' : Nat) : Option zAc := match zM k' with
  | none => none
  | some N => if N.2.2.2.2.2.1 + 1 ≤ M.2.2.2.2.2.1 ∧ 8 + (N.2.2.1 + 11) + N.2.2.2.2.2.2 ≤ M.2.2.2.2.2.2 ∧ zcat rest ≤ 8 ∧ as.length ≤ N.2.2.1 ∧ zcat1 as = true then
      some (.inr (.inr ((k', 0, zent as N.2.2.1, [], h), fun x => (k, pc + 3, ls, if N.2.2.2.1 = none then rest else x.1 :: rest, x.2)))) else none
def zsw (pc : Nat) (d lo hi : Int) (offs : Array Int) (x : Int32) : Option Nat := if x.toInt < lo ∨ hi < x.toInt then zTg pc d else match offs[(x.toInt - lo).toNat]? with
  | some o => zTg pc o
  | none => none
def zlen : Instr → Nat → Nat
  | .iload _, _ | .istore _, _ | .aload _, _ | .astore _, _ | .lload _, _ | .lstore _, _ | .bipush _, _ | .newarray _, _ | .ldc _, _ => 2
  | .sipush _, _ | .getfield _, _ | .putfield _, _ | .goto _, _ | .ifCond _ _, _ | .if_icmp _ _, _ | .iinc _ _, _ | .invokevirtual _, _ | .invokestatic _, _ | .invokespecial _, _ | .new _, _ | .anewarray _, _ | .ldc_w _, _ | .ldc2_w _, _ => 3
  | .tableswitch _ _ _ _, n => n
  | .lookupswitch _ _, n => n
  | _, _ => 1
def zcmp (c : ClassFile.Cond) (x y : Int32) : Bool := match c with
  | .eq => decide (x = y)
  | .ne => !decide (x = y)
  | .lt => decide (x < y)
  | .ge => decide (y ≤ x)
  | .gt => decide (y < x)
  | .le => decide (x ≤ y)
def zins (sc : zScr) (k : Nat) (M : zMe) (pc : Nat) (ls : List (Option Value)) (st : List Value) (h : zHp) : Instr → Option zAc
  | .aload_n j => match ls[j.val]? with
    | some (some (.ref a)) => zgo k (pc + 1) ls (.ref a :: st) h
    | some (some (.retAddr a)) => zgo k (pc + 1) ls (.retAddr a :: st) h
    | _ => none
  | .aload j => match ls[j]? with
    | some (some (.ref a)) => zgo k (pc + 2) ls (.ref a :: st) h
    | _ => none
  | .iload_n j => match ls[j.val]? with
    | some (some (.int a)) => zgo k (pc + 1) ls (.int a :: st) h
    | _ => none
  | .iload j => match ls[j]? with
    | some (some (.int a)) => zgo k (pc + 2) ls (.int a :: st) h
    | _ => none
  | .lload_n j => match ls[j.val]? with
    | some (some (.long a)) => zgo k (pc + 1) ls (.long a :: st) h
    | _ => none
  | .lload j => match ls[j]? with
    | some (some (.long a)) => zgo k (pc + 2) ls (.long a :: st) h
    | _ => none
  | .istore_n j => match st with
    | .int x :: st => match zset k ls j.val (.int x) with
      | some ls' => zgo k (pc + 1) ls' st h
      | none => none
    | _ => none
  | .istore j => match st with
    | .int x :: st => match zset k ls j (.int x) with
      | some ls' => zgo k (pc + 2) ls' st h
      | none => none
    | _ => none
  | .astore_n j => match st with
    | .ref x :: st => match zset k ls j.val (.ref x) with
      | some ls' => zgo k (pc + 1) ls' st h
      | none => none
    | _ => none
  | .astore j => match st with
    | .ref x :: st => match zset k ls j (.ref x) with
      | some ls' => zgo k (pc + 2) ls' st h
      | none => none
    | _ => none
  | .lstore_n j => match st with
    | .long x :: st => if j.val = zLA k ∧ j.val + 1 < M.2.2.1 then zgo k (pc + 1) ((ls.set j.val (some (.long x))).set (j.val + 1) none) st h else none
    | _ => none
  | .lstore j => match st with
    | .long x :: st => if j = zLA k ∧ j + 1 < M.2.2.1 then zgo k (pc + 2) ((ls.set j (some (.long x))).set (j + 1) none) st h else none
    | _ => none
  | .iinc j c => match ls[j]? with
    | some (some (.int x)) => match zset k ls j (.int (x + Int32.ofInt c)) with
      | some ls' => zgo k (pc + 3) ls' st h
      | none => none
    | _ => none
  | .iconst n => zgo k (pc + 1) ls (.int (Int32.ofInt n) :: st) h
  | .bipush n => zgo k (pc + 2) ls (.int (Int8.ofInt n).toInt32 :: st) h
  | .sipush n => zgo k (pc + 3) ls (.int (Int16.ofInt n).toInt32 :: st) h
  | .lconst n => zgo k (pc + 1) ls (.long (Int64.ofNat n.val) :: st) h
  | .ldc i => match zI M.2.2.2.2.1 i with
    | some v => zgo k (pc + 2) ls (.int v :: st) h
    | none => none
  | .ldc_w i => match zI M.2.2.2.2.1 i with
    | some v => zgo k (pc + 3) ls (.int v :: st) h
    | none => none
  | .ldc2_w i => match zL M.2.2.2.2.1 i with
    | some v => zgo k (pc + 3) ls (.long v :: st) h
    | none => none
  | .iadd => match st with
    | .int y :: .int x :: st => zgo k (pc + 1) ls (.int (x + y) :: st) h
    | _ => none
  | .isub => match st with
    | .int y :: .int x :: st => zgo k (pc + 1) ls (.int (x - y) :: st) h
    | _ => none
  | .imul => match st with
    | .int y :: .int x :: st => zgo k (pc + 1) ls (.int (x * y) :: st) h
    | _ => none
  | .idiv => match st with
    | .int y :: .int x :: st => if y = 0 then none else zgo k (pc + 1) ls (.int (x / y) :: st) h
    | _ => none
  | .irem => match st with
    | .int y :: .int x :: st => if y = 0 then none else zgo k (pc + 1) ls (.int (x - x / y * y) :: st) h
    | _ => none
  | .ishl => match st with
    | .int y :: .int x :: st => zgo k (pc + 1) ls (.int (x <<< (y &&& 31)) :: st) h
    | _ => none
  | .ishr => match st with
    | .int y :: .int x :: st => zgo k (pc + 1) ls (.int (x >>> (y &&& 31)) :: st) h
    | _ => none
  | .iushr => match st with
    | .int y :: .int x :: st => zgo k (pc + 1) ls (.int (x.toUInt32 >>> (y.toUInt32 &&& Int32.toUInt32 31)).toInt32 :: st) h
    | _ => none
  | .iand => match st with
    | .int y :: .int x :: st => zgo k (pc + 1) ls (.int (x &&& y) :: st) h
    | _ => none
  | .ior => match st with
    | .int y :: .int x :: st => zgo k (pc + 1) ls (.int (x ||| y) :: st) h
    | _ => none
  | .ixor => match st with
    | .int y :: .int x :: st => zgo k (pc + 1) ls (.int (x ^^^ y) :: st) h
    | _ => none
  | .ladd => match st with
    | .long y :: .long x :: st => zgo k (pc + 1) ls (.long (x + y) :: st) h
    | _ => none
  | .lmul => match st with
    | .long y :: .long x :: st => zgo k (pc + 1) ls (.long (x * y) :: st) h
    | _ => none
  | .lcmp => match st with
    | .long y :: .long x :: st => zgo k (pc + 1) ls (.int (lg_cmp x y) :: st) h
    | _ => none
  | .i2b => match st with
    | .int x :: st => zgo k (pc + 1) ls (.int x.toInt8.toInt32 :: st) h
    | _ => none
  | .dup => match st with
    | v :: st => if v.category = 1 then zgo k (pc + 1) ls (v :: v :: st) h else none
    | _ => none
  | .dup2 => match st with
    | v :: w :: st => if v.category = 1 ∧ w.category = 1 then zgo k (pc + 1) ls (v :: w :: v :: w :: st) h else none
    | _ => none
  | .goto off => zjp k (zTg pc off) ls st h
  | .ifCond c off => match st with
    | .int x :: st => match zTg pc off with
      | some t => if zcmp c x 0 = true then zgo k t ls st h else zgo k (pc + 3) ls st h
      | none => none
    | _ => none
  | .if_icmp c off => match st with
    | .int y :: .int x :: st => match zTg pc off with
      | some t => if zcmp c x y = true then zgo k t ls st h else zgo k (pc + 3) ls st h
      | none => none
    | _ => none
  | .tableswitch d lo hi offs => match st with
    | .int x :: st => zjp k (zsw pc d lo hi offs x) ls st h
    | _ => none
  | .lookupswitch d ps => match st with
    | .int x :: st => if (ps.toList.zip (ps.toList.drop 1)).all (fun (a, next) => a.1 < next.1) = true then zjp k (zTg pc (Op.lookupswitch.offset ps.toList d x.toInt)) ls st h else none
    | _ => none
  | .getfield i => match zF M.2.2.2.2.1 i, st with
    | some (ci, j), .ref a :: st => if zok h.1 a ci = true then (match zcl (zTy ci j) with
        | 0 => zgo k (pc + 3) ls (.int (h.2.1 a j) :: st) h
        | 3 => zgo k (pc + 3) ls (.int (h.2.1 a j) :: st) h
        | 1 => zgo k (pc + 3) ls (.long (h.2.2.2 a j) :: st) h
        | 2 => zgo k (pc + 3) ls (va_rf (h.2.2.1 a j) :: st) h
        | _ => none) else none
    | _, _ => none
  | .putfield i => match zF M.2.2.2.2.1 i, st with
    | some (ci, j), v :: .ref a :: st => if zok h.1 a ci = true ∧ ((zCl[ci]?).map (fun r => (r.2.1 j).2.2.2) = some false ∨ ((zCl[ci]?).map (fun r => (r.2.1 j).2.2.2) = some true ∧ M.1.name = "<init>" ∧ (zCl[ci]?).map (fun r => (r.2.1 j).1) = some (zRN M.2.2.2.2.1))) then (match zcl (zTy ci j), v with
        | 0, .int x => zgo k (pc + 3) ls st (h.1, zU h.2.1 a j x, h.2.2.1, h.2.2.2)
        | 3, .int x => if x = 0 ∨ x = 1 then zgo k (pc + 3) ls st (h.1, zU h.2.1 a j x, h.2.2.1, h.2.2.2) else none
        | 1, .long x => zgo k (pc + 3) ls st (h.1, h.2.1, h.2.2.1, zU h.2.2.2 a j x)
        | 2, .ref x => zgo k (pc + 3) ls st (h.1, h.2.1, zU h.2.2.1 a j (some x), h.2.2.2)
        | _, _ => none) else none
    | _, _ => none
  | .new i => match zC M.2.2.2.2.1 i with
    | some ci => if (zCl[ci]?).map (fun r => r.2.2) = some (zK h.1).2 ∧ (zK h.1).1 = ci then zgo k (pc + 3) ls (.ref h.1 :: st) (h.1 + 1, zCr h.2.1 h.1 0, zCr h.2.2.1 h.1 none, zCr h.2.2.2 h.1 0) else none
    | none => none
  | .newarray t => match st with
    | .int x :: st => if ¬ x < 0 ∧ x.toNatClampNeg = (zK h.1).2 ∧ (zK h.1).2 ≤ 5000 ∧ ((t = .int ∧ (zK h.1).1 = 100) ∨ (t = .byte ∧ (zK h.1).1 = 101) ∨ (t = .boolean ∧ (zK h.1).1 = 102)) then
        zgo k (pc + 2) ls (.ref h.1 :: st) (h.1 + 1, zCr h.2.1 h.1 0, zCr h.2.2.1 h.1 none, zCr h.2.2.2 h.1 0) else none
    | _ => none
  | .anewarray i => match zC M.2.2.2.2.1 i, st with
    | some ci, .int x :: st => if ¬ x < 0 ∧ x.toNatClampNeg = (zK h.1).2 ∧ (zK h.1).2 ≤ 5000 ∧ ((ci = 7 ∧ (zK h.1).1 = 103) ∨ (ci = 3 ∧ (zK h.1).1 = 104)) then
        zgo k (pc + 3) ls (.ref h.1 :: st) (h.1 + 1, zCr h.2.1 h.1 0, zCr h.2.2.1 h.1 none, zCr h.2.2.2 h.1 0) else none
    | _, _ => none
  | .arraylength => match st with
    | .retAddr _ :: st => zgo k (pc + 1) ls (.int (Int32.ofNat sc.1) :: st) h
    | _ => none
  | .iaload => match st with
    | .int j :: .ref a :: st => if zok h.1 a 100 = true ∧ ¬ (j < 0 ∨ (zK a).2 ≤ j.toNatClampNeg) then zgo k (pc + 1) ls (.int (h.2.1 a j.toNatClampNeg) :: st) h else none
    | .int j :: .retAddr _ :: st => if ¬ (j < 0 ∨ sc.1 ≤ j.toNatClampNeg) then zgo k (pc + 1) ls (.int (sc.2 j.toNatClampNeg) :: st) h else none
    | _ => none
  | .baload => match st with
    | .int j :: .ref a :: st => if (zok h.1 a 101 = true ∨ zok h.1 a 102 = true) ∧ ¬ (j < 0 ∨ (zK a).2 ≤ j.toNatClampNeg) then zgo k (pc + 1) ls (.int (h.2.1 a j.toNatClampNeg) :: st) h else none
    | _ => none
  | .iastore => match st with
    | .int x :: .int j :: .ref a :: st => if zok h.1 a 100 = true ∧ ¬ (j < 0 ∨ (zK a).2 ≤ j.toNatClampNeg) then zgo k (pc + 1) ls st (h.1, zU h.2.1 a j.toNatClampNeg x, h.2.2.1, h.2.2.2) else none
    | _ => none
  | .bastore => match st with
    | .int x :: .int j :: .ref a :: st => if ¬ (j < 0 ∨ (zK a).2 ≤ j.toNatClampNeg) then
        (if zok h.1 a 101 = true then zgo k (pc + 1) ls st (h.1, zU h.2.1 a j.toNatClampNeg (vp_nar .byte x), h.2.2.1, h.2.2.2)
        else if zok h.1 a 102 = true then zgo k (pc + 1) ls st (h.1, zU h.2.1 a j.toNatClampNeg (vp_nar .boolean x), h.2.2.1, h.2.2.2) else none) else none
    | _ => none
  | .aaload => match st with
    | .int j :: .ref a :: st => if (zok h.1 a 103 = true ∨ zok h.1 a 104 = true) ∧ ¬ (j < 0 ∨ (zK a).2 ≤ j.toNatClampNeg) then zgo k (pc + 1) ls (va_rf (h.2.2.1 a j.toNatClampNeg) :: st) h else none
    | _ => none
  | .aastore => match st with
    | .ref x :: .int j :: .ref a :: st => if ((zok h.1 a 103 = true ∧ zok h.1 x 7 = true) ∨ (zok h.1 a 104 = true ∧ zok h.1 x 3 = true)) ∧ ¬ (j < 0 ∨ (zK a).2 ≤ j.toNatClampNeg) then zgo k (pc + 1) ls st (h.1, h.2.1, zU h.2.2.1 a j.toNatClampNeg (some x), h.2.2.2) else none
    | _ => none
  | .invokevirtual i => match zMr M.2.2.2.2.1 i with
    | some (k', 0, na) => match st.drop na with
      | .ref a :: rest => if (zM k').map (fun N => zok h.1 a N.2.2.2.2.1) = some true ∧ (st.take na).length = na then zcall k M pc ls (.ref a :: (st.take na).reverse) rest h k' else none
      | _ => none
    | _ => none
  | .invokespecial i => match zMr M.2.2.2.2.1 i with
    | some (_, 4, _) => match st with
      | .ref _ :: rest => if 1 ≤ M.2.2.2.2.2.1 ∧ zcat rest ≤ 8 ∧ 20 ≤ M.2.2.2.2.2.2 then zgo k (pc + 3) ls rest h else none
      | _ => none
    | some (k', 2, na) => match st.drop na with
      | .ref a :: rest => if (st.take na).length = na then zcall k M pc ls (.ref a :: (st.take na).reverse) rest h k' else none
      | _ => none
    | some (k', 3, na) => match st.drop na with
      | .ref a :: rest => if (st.take na).length = na then zcall k M pc ls (.ref a :: (st.take na).reverse) rest h k' else none
      | _ => none
    | _ => none
  | .invokestatic i => match zMr M.2.2.2.2.1 i with
    | some (_, 5, _) => match st with
      | .int y :: .int x :: rest => if 1 ≤ M.2.2.2.2.2.1 ∧ zcat rest ≤ 8 ∧ 21 ≤ M.2.2.2.2.2.2 then zgo k (pc + 3) ls (.int (if x < y then y else x) :: rest) h else none
      | _ => none
    | some (_, 6, _) => match st with
      | .int y :: .int x :: rest => if 1 ≤ M.2.2.2.2.2.1 ∧ zcat rest ≤ 8 ∧ 21 ≤ M.2.2.2.2.2.2 then zgo k (pc + 3) ls (.int (if y < x then y else x) :: rest) h else none
      | _ => none
    | some (_, 7, _) => match st with
      | .int x :: rest => if 1 ≤ M.2.2.2.2.2.1 ∧ zcat rest ≤ 8 ∧ 21 ≤ M.2.2.2.2.2.2 then zgo k (pc + 3) ls (.int (if 0 ≤ x then x else 0 - x) :: rest) h else none
      | _ => none
    | some (_, 8, _) => match st with
      | .int n :: .int dp :: .ref a :: .int sp :: .ref a0 :: rest => if (1 ≤ M.2.2.2.2.2.1 ∧ zcat rest ≤ 8 ∧ 26 ≤ M.2.2.2.2.2.2) ∧ zok h.1 a 100 = true ∧ zok h.1 a0 100 = true ∧ ¬ sp < 0 ∧ ¬ dp < 0 ∧ ¬ n < 0 ∧ sp.toNatClampNeg + n.toNatClampNeg ≤ (zK a0).2 ∧ dp.toNatClampNeg + n.toNatClampNeg ≤ (zK a).2 then
          zgo k (pc + 3) ls rest (h.1, zCp h.2.1 a0 a sp.toNatClampNeg dp.toNatClampNeg n.toNatClampNeg, h.2.2.1, h.2.2.2) else none
      | _ => none
    | some (k', 1, na) => if (st.take na).length = na then zcall k M pc ls (st.take na).reverse (st.drop na) h k' else none
    | _ => none
  | .ireturn => match st with
    | [.int x] => if M.2.2.2.1 = some .int ∨ (M.2.2.2.1 = some .boolean ∧ (x = 0 ∨ x = 1)) then some (.inl (.int x, h)) else none
    | _ => none
  | .lreturn => match st with
    | [.long x] => if M.2.2.2.1 = some .long then some (.inl (.long x, h)) else none
    | _ => none
  | .return_ => match st with
    | [] => if M.2.2.2.1 = none then some (.inl (.null, h)) else none
    | _ => none
  | _ => none
def zact (sc : zScr) (s : zSt) : Option zAc := match zM s.1 with
  | none => none
  | some M => match decode M.2.1 s.2.1 with
    | .error _ => none
    | .ok x => if x.2 = zlen x.1 x.2 then zins sc s.1 M s.2.1 s.2.2.1 s.2.2.2.1 s.2.2.2.2 x.1 else none
def zstp (rec : zSt → Option zRs) (a : Option zAc) : Option zRs := match a with
  | none => none
  | some (.inl r) => some r
  | some (.inr (.inl s)) => rec s
  | some (.inr (.inr sf)) => (rec sf.1).bind (fun x => rec (sf.2 x))
def zrun (sc : zScr) : Nat → zSt → Option zRs
  | 0, _ => none
  | n + 1, s => zstp (zrun sc n) (zact sc s)
theorem zstp_mono {r1 r2 : zSt → Option zRs} (hr : ∀ s x, r1 s = some x → r2 s = some x) {a : Option zAc} {x : zRs} (h : zstp r1 a = some x) : zstp r2 a = some x := by
  match a, h with
  | some (.inl r), h => exact h
  | some (.inr (.inl s)), h => exact hr _ _ h
  | some (.inr (.inr sf)), h =>
    simp only [zstp] at h ⊢
    obtain ⟨y, h1, h2⟩ := Option.bind_eq_some_iff.mp h
    exact Option.bind_eq_some_iff.mpr ⟨y, hr _ _ h1, hr _ _ h2⟩
theorem zrun_succ (sc : zScr) : ∀ (n : Nat) (s : zSt) (x : zRs), zrun sc n s = some x → zrun sc (n + 1) s = some x
  | 0, _, _, h => by cases h
  | n + 1, _, _, h => zstp_mono (zrun_succ sc n) h
theorem zrun_mono {sc : zScr} {n m : Nat} (h : n ≤ m) {s : zSt} {x : zRs} (hx : zrun sc n s = some x) : zrun sc m s = some x := by
  induction h with
  | refl => exact hx
  | step _ ih => exact zrun_succ sc _ _ _ ih
theorem zrun_det {sc : zScr} {n m : Nat} {s : zSt} {x y : zRs} (hx : zrun sc n s = some x) (hy : zrun sc m s = some y) : x = y := by
  have h1 := zrun_mono (Nat.le_max_left n m) hx
  have h2 := zrun_mono (Nat.le_max_right n m) hy
  exact Option.some.inj (h1.symm.trans h2)
/-- what a state comes to, if it does -/
noncomputable def zev (sc : zScr) (s : zSt) : Option zRs := @dite _ (∃ (x : zRs) (n : Nat), zrun sc n s = some x) (Classical.propDecidable _) (fun h => some h.choose) (fun _ => none)
theorem zev_iff {sc : zScr} {s : zSt} {x : zRs} : zev sc s = some x ↔ ∃ n, zrun sc n s = some x := by
  unfold zev
  constructor
  · intro h
    by_cases hc : ∃ (x : zRs) (n : Nat), zrun sc n s = some x
    · rw [dif_pos hc] at h
      obtain ⟨n, hn⟩ := hc.choose_spec
      rw [Option.some.inj h] at hn
      exact ⟨n, hn⟩
    · rw [dif_neg hc] at h
      cases h
  · intro ⟨n, hn⟩
    have hc : ∃ (x : zRs) (n : Nat), zrun sc n s = some x := ⟨x, n, hn⟩
    rw [dif_pos hc]
    obtain ⟨m, hm⟩ := hc.choose_spec
    rw [zrun_det hm hn]
theorem zev_some {sc : zScr} {s : zSt} {x : zRs} : zstp (zev sc) (zact sc s) = some x ↔ zev sc s = some x := by
  rw [zev_iff]
  constructor
  · intro h
    match ha : zact sc s, h with
    | some (.inl r), h =>
      exact ⟨1, by show zstp _ (zact sc s) = _; rw [ha]; exact h⟩
    | some (.inr (.inl s')), h =>
      obtain ⟨n, hn⟩ := zev_iff.mp h
      exact ⟨n + 1, by show zstp _ (zact sc s) = _; rw [ha]; exact hn⟩
    | some (.inr (.inr sf)), h =>
      simp only [zstp] at h
      obtain ⟨y, h1, h2⟩ := Option.bind_eq_some_iff.mp h
      obtain ⟨n, hn⟩ := zev_iff.mp h1
      obtain ⟨m, hm⟩ := zev_iff.mp h2
      refine ⟨max n m + 1, ?_⟩
      show zstp _ (zact sc s) = _
      rw [ha]
      exact Option.bind_eq_some_iff.mpr ⟨y, zrun_mono (Nat.le_max_left _ _) hn, zrun_mono (Nat.le_max_right _ _) hm⟩
  · intro ⟨n, hn⟩
    match n, hn with
    | n + 1, hn =>
      exact zstp_mono (fun s x h => zev_iff.mpr ⟨n, h⟩) hn
theorem zev_eq (sc : zScr) (s : zSt) : zev sc s = zstp (zev sc) (zact sc s) := by
  cases h : zev sc s with
  | some x => exact (zev_some.mpr h).symm
  | none =>
    cases h2 : zstp (zev sc) (zact sc s) with
    | none => rfl
    | some x => rw [zev_some.mp h2] at h; cases h
end
section
/-! THE INTERPRETER IS SOUND: what the tables say, checked; the world; each instruction by its row; calls by Met -/
def zTB : List Cond := lw_tbl.filter goodWord
def zinT (q : Nat) (w : Cond) : Bool := goodWord w && decide (lw_tbl[q]? = some w)
theorem zinT_mem {q : Nat} {w : Cond} (h : zinT q w = true) : w ∈ zTB := by
  simp only [zinT, Bool.and_eq_true, decide_eq_true_eq] at h
  exact List.mem_filter.mpr ⟨List.mem_of_getElem? h.2, h.1⟩
theorem zinT_rfl {q : Nat} {w : Cond} (h1 : goodWord w = true) (h2 : lw_tbl[q]? = some w) : w ∈ zTB := List.mem_filter.mpr ⟨List.mem_of_getElem? h2, h1⟩
def zisN : Cond → Bool
  | .methodLinkNest _ _ _ _ => true
  | _ => false
def zNest : List Cond := lw_tbl.filter zisN
def zinN (q : Nat) (w : Cond) : Bool := zisN w && decide (lw_tbl[q]? = some w)
theorem zinN_mem {q : Nat} {w : Cond} (h : zinN q w = true) : w ∈ zNest := by
  simp only [zinN, Bool.and_eq_true, decide_eq_true_eq] at h
  exact List.mem_filter.mpr ⟨List.mem_of_getElem? h.2, h.1⟩
def zFok (e : Nat × Nat × Nat × Nat × Nat) : Bool := match zCl[e.2.2.1]? with
  | some r => decide (e.2.2.2.1 < r.2.2) && (zinT e.2.2.2.2 (.fieldLink (zRN e.1) e.2.1 r.1 (r.2.1 e.2.2.2.1).2.1 (r.2.1 e.2.2.2.1).2.2.1) && decide ((r.2.1 e.2.2.2.1).1 = r.1))
  | none => false
def zMNok (k na : Nat) : Bool := match zM k, zMP[k]? with
  | some N, some P => decide (k < 185) && (zinT P.2.2.2.2 (.initialized N.1.cls) && (plainName N.1.cls && ((decide (N.1.cls ≠ "java/lang/invoke/MethodHandle") && decide (N.1.cls ≠ "java/lang/invoke/VarHandle")) && (decide ((parseMethodDescriptor N.1.desc).map (fun d => d.parameters.length) = some na) && decide (N.1.cls = zRN N.2.2.2.2.1)))))
  | _, _ => false
def zMok (e : Nat × Nat × Nat × Nat × Nat × Nat) : Bool := match e.2.2.2.1 with
  | 4 => zinT e.2.2.2.2.2 (.methodLink (zRN e.1) e.2.1 Lib.objectInit)
  | 5 => zinT e.2.2.2.2.2 (.methodLink (zRN e.1) e.2.1 Lib.Math.max.name)
  | 6 => zinT e.2.2.2.2.2 (.methodLink (zRN e.1) e.2.1 Lib.Math.min.name)
  | 7 => zinT e.2.2.2.2.2 (.methodLink (zRN e.1) e.2.1 Lib.Math.abs.name)
  | 8 => zinT e.2.2.2.2.2 (.methodLink (zRN e.1) e.2.1 arraycopyName)
  | kd => zMNok e.2.2.1 e.2.2.2.2.1 && (match zM e.2.2.1, zMP[e.2.2.1]?, kd with
    | some N, some P, 0 => zinT e.2.2.2.2.2 (.methodLink (zRN e.1) e.2.1 N.1) && (zinT P.2.1 (.instanceMethod N.1) && (zinT P.2.2.2.1 (.selects N.1.cls N.1 N.1) && decide (N.2.2.2.2.1 < 11)))
    | some N, some P, 1 => zinT e.2.2.2.2.2 (.methodLink (zRN e.1) e.2.1 N.1) && zinT P.2.2.1 (.static N.1)
    | some N, some P, 2 => zinT e.2.2.2.2.2 (.methodLink (zRN e.1) e.2.1 N.1) && (zinT P.2.1 (.instanceMethod N.1) && (decide (N.1.name = "<init>") && decide (N.2.2.2.1 = none)))
    | some N, some P, 3 => zinN e.2.2.2.2.2 (.methodLinkNest (zRN e.1) e.2.1 N.1 "HarpFences") && (zinT P.2.1 (.instanceMethod N.1) && (decide (N.1.name = "<init>") && decide (N.2.2.2.1 = none)))
    | _, _, _ => false)
set_option maxRecDepth 100000 in
theorem zFL_ok : zFL.all zFok = true := by decide +kernel
set_option maxRecDepth 100000 in
theorem zML_ok : zML.all zMok = true := by decide +kernel
set_option maxRecDepth 100000 in
theorem zCL_ok : zCL.all (fun e => match zCl[e.2.2.1]? with
  | some r => zinT e.2.2.2 (.classLink (zRN e.1) e.2.1 r.1)
  | none => false) = true := by decide +kernel
set_option maxRecDepth 100000 in
theorem zIL_ok : zIL.all (fun e => zinT e.2.2.2 (.constant (zRN e.1) e.2.1 e.2.2.1)) = true := by decide +kernel
set_option maxRecDepth 100000 in
theorem zLL_ok : zLL.all (fun e => zinT e.2.2.2 (.constantLong (zRN e.1) e.2.1 e.2.2.1)) = true := by decide +kernel
theorem zgood : ∀ w ∈ zTB, goodWord w = true := fun _ h => (List.mem_filter.mp h).2
theorem zF_spec {o i ci j : Nat} (h : zF o i = some (ci, j)) : ∃ (C : String) (T : u_T) (N : Nat), zCl[ci]? = some (C, T, N) ∧ j < N ∧ Cond.fieldLink (zRN o) i C (T j).2.1 (T j).2.2.1 ∈ zTB ∧ (T j).1 = C := by
  unfold zF at h
  obtain ⟨e, he, hv⟩ := Option.map_eq_some_iff.mp h
  have h1 := List.find?_some he
  have h2 := List.all_eq_true.mp zFL_ok e (List.mem_of_find?_eq_some he)
  simp only [Bool.and_eq_true, beq_iff_eq] at h1
  simp only [Prod.mk.injEq] at hv
  obtain ⟨rfl, rfl⟩ := h1
  obtain ⟨rfl, rfl⟩ := hv
  unfold zFok at h2
  split at h2
  · rename_i r hr
    simp only [Bool.and_eq_true, decide_eq_true_eq] at h2
    exact ⟨r.1, r.2.1, r.2.2, hr, h2.1, zinT_mem h2.2.1, h2.2.2⟩
  · cases h2
theorem zMr_spec {o i k kd na : Nat} (h : zMr o i = some (k, kd, na)) : ∃ q, zMok (o, i, k, kd, na, q) = true := by
  unfold zMr at h
  obtain ⟨e, he, hv⟩ := Option.map_eq_some_iff.mp h
  have h1 := List.find?_some he
  have h2 := List.all_eq_true.mp zML_ok e (List.mem_of_find?_eq_some he)
  simp only [Bool.and_eq_true, beq_iff_eq] at h1
  simp only [Prod.mk.injEq] at hv
  obtain ⟨rfl, rfl⟩ := h1
  obtain ⟨rfl, rfl, rfl⟩ := hv
  exact ⟨_, h2⟩
theorem zC_spec {o i ci : Nat} (h : zC o i = some ci) : ∃ (r : vw_C), zCl[ci]? = some r ∧ Cond.classLink (zRN o) i r.1 ∈ zTB := by
  unfold zC at h
  obtain ⟨e, he, hv⟩ := Option.map_eq_some_iff.mp h
  have h1 := List.find?_some he
  have h2 := List.all_eq_true.mp zCL_ok e (List.mem_of_find?_eq_some he)
  simp only [Bool.and_eq_true, beq_iff_eq] at h1
  obtain ⟨rfl, rfl⟩ := h1
  subst hv
  split at h2
  · rename_i r hr
    exact ⟨r, hr, zinT_mem h2⟩
  · cases h2
theorem zI_spec {o i : Nat} {v : Int32} (h : zI o i = some v) : Cond.constant (zRN o) i v ∈ zTB := by
  unfold zI at h
  obtain ⟨e, he, hv⟩ := Option.map_eq_some_iff.mp h
  have h1 := List.find?_some he
  have h2 := List.all_eq_true.mp zIL_ok e (List.mem_of_find?_eq_some he)
  simp only [Bool.and_eq_true, beq_iff_eq] at h1
  obtain ⟨rfl, rfl⟩ := h1
  subst hv
  exact zinT_mem h2
theorem zL_spec {o i : Nat} {v : Int64} (h : zL o i = some v) : Cond.constantLong (zRN o) i v ∈ zTB := by
  unfold zL at h
  obtain ⟨e, he, hv⟩ := Option.map_eq_some_iff.mp h
  have h1 := List.find?_some he
  have h2 := List.all_eq_true.mp zLL_ok e (List.mem_of_find?_eq_some he)
  simp only [Bool.and_eq_true, beq_iff_eq] at h1
  obtain ⟨rfl, rfl⟩ := h1
  subst hv
  exact zinT_mem h2
/-- what is known of a class -/
def zCK (ci : Nat) (r : vw_C) : Prop := (∀ w ∈ u_ws r.1 r.2.1 r.2.2, w ∈ zTB) ∧ (∀ k, k < r.2.2 → parseFieldDescriptor (r.2.1 k).2.2.1 = some (zTy ci k)) ∧ (∀ a, a < r.2.2 → ∀ b, b < r.2.2 → a ≠ b → (r.2.1 a).2.1 ≠ (r.2.1 b).2.1) ∧ Cond.instantiable r.1 r.2.2 ∈ zTB ∧ Cond.initialized r.1 ∈ zTB
set_option maxRecDepth 100000 in
theorem zCKw0 : ∀ w ∈ u_ws RX0 TX0 5, w ∈ lw_tbl ∧ goodWord w = true := by decide +kernel
set_option maxRecDepth 100000 in
theorem zCK0 : zCK 0 (RX0, TX0, 5) := ⟨fun w h => List.mem_filter.mpr (zCKw0 w h), tyX0_ok, nmX0, zinT_mem (q := 343) (by decide +kernel), zinT_mem (q := 75) (by decide +kernel)⟩
set_option maxRecDepth 100000 in
theorem zCKw1 : ∀ w ∈ u_ws RX1 TX1 2, w ∈ lw_tbl ∧ goodWord w = true := by decide +kernel
set_option maxRecDepth 100000 in
theorem zCK1 : zCK 1 (RX1, TX1, 2) := ⟨fun w h => List.mem_filter.mpr (zCKw1 w h), tyX1_ok, nmX1, zinT_mem (q := 249) (by decide +kernel), zinT_mem (q := 71) (by decide +kernel)⟩
set_option maxRecDepth 100000 in
theorem zCKw2 : ∀ w ∈ u_ws RX2 TX2 7, w ∈ lw_tbl ∧ goodWord w = true := by decide +kernel
set_option maxRecDepth 100000 in
theorem zCK2 : zCK 2 (RX2, TX2, 7) := ⟨fun w h => List.mem_filter.mpr (zCKw2 w h), tyX2_ok, nmX2, zinT_mem (q := 289) (by decide +kernel), zinT_mem (q := 73) (by decide +kernel)⟩
set_option maxRecDepth 100000 in
theorem zCKw3 : ∀ w ∈ u_ws RX3 TX3 3, w ∈ lw_tbl ∧ goodWord w = true := by decide +kernel
set_option maxRecDepth 100000 in
theorem zCK3 : zCK 3 (RX3, TX3, 3) := ⟨fun w h => List.mem_filter.mpr (zCKw3 w h), tyX3_ok, nmX3, zinT_mem (q := 367) (by decide +kernel), zinT_mem (q := 77) (by decide +kernel)⟩
set_option maxRecDepth 100000 in
theorem zCKw4 : ∀ w ∈ u_ws RX4 TX4 12, w ∈ lw_tbl ∧ goodWord w = true := by decide +kernel
set_option maxRecDepth 100000 in
theorem zCK4 : zCK 4 (RX4, TX4, 12) := ⟨fun w h => List.mem_filter.mpr (zCKw4 w h), tyX4_ok, nmX4, zinT_mem (q := 120) (by decide +kernel), zinT_mem (q := 69) (by decide +kernel)⟩
set_option maxRecDepth 100000 in
theorem zCKw5 : ∀ w ∈ u_ws RX5 TX5 3, w ∈ lw_tbl ∧ goodWord w = true := by decide +kernel
set_option maxRecDepth 100000 in
theorem zCK5 : zCK 5 (RX5, TX5, 3) := ⟨fun w h => List.mem_filter.mpr (zCKw5 w h), tyX5_ok, nmX5, zinT_mem (q := 267) (by decide +kernel), zinT_mem (q := 72) (by decide +kernel)⟩
set_option maxRecDepth 100000 in
theorem zCKw6 : ∀ w ∈ u_ws RX6 TX6 6, w ∈ lw_tbl ∧ goodWord w = true := by decide +kernel
set_option maxRecDepth 100000 in
theorem zCK6 : zCK 6 (RX6, TX6, 6) := ⟨fun w h => List.mem_filter.mpr (zCKw6 w h), tyX6_ok, nmX6, zinT_mem (q := 318) (by decide +kernel), zinT_mem (q := 74) (by decide +kernel)⟩
set_option maxRecDepth 100000 in
theorem zCKw7 : ∀ w ∈ u_ws RX7 TX7 7, w ∈ lw_tbl ∧ goodWord w = true := by decide +kernel
set_option maxRecDepth 100000 in
theorem zCK7 : zCK 7 (RX7, TX7, 7) := ⟨fun w h => List.mem_filter.mpr (zCKw7 w h), tyX7_ok, nmX7, zinT_mem (q := 207) (by decide +kernel), zinT_mem (q := 70) (by decide +kernel)⟩
set_option maxRecDepth 100000 in
theorem zCKw8 : ∀ w ∈ u_ws RX8 TX8 7, w ∈ lw_tbl ∧ goodWord w = true := by decide +kernel
set_option maxRecDepth 100000 in
theorem zCK8 : zCK 8 (RX8, TX8, 7) := ⟨fun w h => List.mem_filter.mpr (zCKw8 w h), tyX8_ok, nmX8, zinT_mem (q := 90) (by decide +kernel), zinT_mem (q := 68) (by decide +kernel)⟩
set_option maxRecDepth 100000 in
theorem zCKw9 : ∀ w ∈ u_ws RX9 TX9 11, w ∈ lw_tbl ∧ goodWord w = true := by decide +kernel
set_option maxRecDepth 100000 in
theorem zCK9 : zCK 9 (RX9, TX9, 11) := ⟨fun w h => List.mem_filter.mpr (zCKw9 w h), tyX9_ok, nmX9, zinT_mem (q := 82) (by decide +kernel), zinT_mem (q := 67) (by decide +kernel)⟩
set_option maxRecDepth 100000 in
theorem zCKw10 : ∀ w ∈ u_ws RX10 TX10 32, w ∈ lw_tbl ∧ goodWord w = true := by decide +kernel
set_option maxRecDepth 100000 in
theorem zCK10 : zCK 10 (RX10, TX10, 32) := ⟨fun w h => List.mem_filter.mpr (zCKw10 w h), tyX10_ok, nmX10, zinT_mem (q := 894) (by decide +kernel), zinT_mem (q := 79) (by decide +kernel)⟩
theorem zCK_of {ci : Nat} {r : vw_C} (h : zCl[ci]? = some r) : ci < 11 ∧ zCK ci r := by
  match ci, h with
  | 0, h => cases h; exact ⟨by decide, zCK0⟩
  | 1, h => cases h; exact ⟨by decide, zCK1⟩
  | 2, h => cases h; exact ⟨by decide, zCK2⟩
  | 3, h => cases h; exact ⟨by decide, zCK3⟩
  | 4, h => cases h; exact ⟨by decide, zCK4⟩
  | 5, h => cases h; exact ⟨by decide, zCK5⟩
  | 6, h => cases h; exact ⟨by decide, zCK6⟩
  | 7, h => cases h; exact ⟨by decide, zCK7⟩
  | 8, h => cases h; exact ⟨by decide, zCK8⟩
  | 9, h => cases h; exact ⟨by decide, zCK9⟩
  | 10, h => cases h; exact ⟨by decide, zCK10⟩
  | ci + 11, h => exact absurd h (by simp [zCl])
set_option maxRecDepth 100000 in
theorem zCD0 : Cond.code yX0_init cX0_init 2 none ∈ zTB := zinT_rfl (q := 346) rfl rfl
set_option maxRecDepth 100000 in
theorem zCD1 : Cond.code yX0_alike cX0_alike 3 (some .int) ∈ zTB := zinT_rfl (q := 616) rfl rfl
set_option maxRecDepth 100000 in
theorem zCD2 : Cond.code yX0_fewestTuned cX0_fewestTuned 1 (some .int) ∈ zTB := zinT_rfl (q := 634) rfl rfl
set_option maxRecDepth 100000 in
theorem zCD3 : Cond.code yX0_fewestEars cX0_fewestEars 2 (some .int) ∈ zTB := zinT_rfl (q := 646) rfl rfl
set_option maxRecDepth 100000 in
theorem zCD4 : Cond.code yX0_partnerAlikes cX0_partnerAlikes 3 none ∈ zTB := zinT_rfl (q := 620) rfl rfl
set_option maxRecDepth 100000 in
theorem zCD5 : Cond.code yX0_areAlike cX0_areAlike 3 (some .boolean) ∈ zTB := zinT_rfl (q := 624) rfl rfl
set_option maxRecDepth 100000 in
theorem zCD6 : Cond.code yX0_fewestOfEachTwo cX0_fewestOfEachTwo 4 (some .int) ∈ zTB := zinT_rfl (q := 638) rfl rfl
set_option maxRecDepth 100000 in
theorem zCD7 : Cond.code yX0_hasOneOfEachTwo cX0_hasOneOfEachTwo 4 (some .boolean) ∈ zTB := zinT_rfl (q := 642) rfl rfl
set_option maxRecDepth 100000 in
theorem zCD8 : Cond.code yX0_mostMilk cX0_mostMilk 1 (some .int) ∈ zTB := zinT_rfl (q := 781) rfl rfl
set_option maxRecDepth 100000 in
theorem zCD9 : Cond.code yX0_fieldInHerd cX0_fieldInHerd 5 (some .int) ∈ zTB := zinT_rfl (q := 794) rfl rfl
set_option maxRecDepth 100000 in
theorem zCD10 : Cond.code yX0_bestField cX0_bestField 4 (some .int) ∈ zTB := zinT_rfl (q := 798) rfl rfl
set_option maxRecDepth 100000 in
theorem zCD11 : Cond.code yX0_measureHerds cX0_measureHerds 4 none ∈ zTB := zinT_rfl (q := 785) rfl rfl
set_option maxRecDepth 100000 in
theorem zCD12 : Cond.code yX0_milkWith cX0_milkWith 4 (some .int) ∈ zTB := zinT_rfl (q := 790) rfl rfl
set_option maxRecDepth 100000 in
theorem zCD13 : Cond.code yX1_init cX1_init 3 none ∈ zTB := zinT_rfl (q := 252) rfl rfl
set_option maxRecDepth 100000 in
theorem zCD14 : Cond.code yX1_isString cX1_isString 2 (some .boolean) ∈ zTB := zinT_rfl (q := 547) rfl rfl
set_option maxRecDepth 100000 in
theorem zCD15 : Cond.code yX1_soundTo cX1_soundTo 3 (some .int) ∈ zTB := zinT_rfl (q := 543) rfl rfl
set_option maxRecDepth 100000 in
theorem zCD16 : Cond.code yX1_fifthsAt cX1_fifthsAt 5 (some .int) ∈ zTB := zinT_rfl (q := 766) rfl rfl
set_option maxRecDepth 100000 in
theorem zCD17 : Cond.code yX1_isStringAt cX1_isStringAt 3 (some .boolean) ∈ zTB := zinT_rfl (q := 770) rfl rfl
set_option maxRecDepth 100000 in
theorem zCD18 : Cond.code yX1_beastsThatSound cX1_beastsThatSound 5 (some .int) ∈ zTB := zinT_rfl (q := 658) rfl rfl
set_option maxRecDepth 100000 in
theorem zCD19 : Cond.code yX2_init cX2_init 2 none ∈ zTB := zinT_rfl (q := 292) rfl rfl
set_option maxRecDepth 100000 in
theorem zCD20 : Cond.code yX2_takes cX2_takes 2 (some .boolean) ∈ zTB := zinT_rfl (q := 668) rfl rfl
set_option maxRecDepth 100000 in
theorem zCD21 : Cond.code yX2_rowsFrom cX2_rowsFrom 5 (some .int) ∈ zTB := zinT_rfl (q := 684) rfl rfl
set_option maxRecDepth 100000 in
theorem zCD22 : Cond.code yX2_crossAll cX2_crossAll 6 none ∈ zTB := zinT_rfl (q := 688) rfl rfl
set_option maxRecDepth 100000 in
theorem zCD23 : Cond.code yX2_endsOf cX2_endsOf 4 (some .int) ∈ zTB := zinT_rfl (q := 698) rfl rfl
set_option maxRecDepth 100000 in
theorem zCD24 : Cond.code yX2_endsBehind cX2_endsBehind 6 (some .int) ∈ zTB := zinT_rfl (q := 702) rfl rfl
set_option maxRecDepth 100000 in
theorem zCD25 : Cond.code yX2_kindsThatCan cX2_kindsThatCan 3 (some .int) ∈ zTB := zinT_rfl (q := 710) rfl rfl
set_option maxRecDepth 100000 in
theorem zCD26 : Cond.code yX2_fenceToWatch cX2_fenceToWatch 5 (some .int) ∈ zTB := zinT_rfl (q := 719) rfl rfl
set_option maxRecDepth 100000 in
theorem zCD27 : Cond.code yX2_greatestCrowd cX2_greatestCrowd 6 (some .int) ∈ zTB := zinT_rfl (q := 723) rfl rfl
set_option maxRecDepth 100000 in
theorem zCD28 : Cond.code yX2_comesTo cX2_comesTo 3 (some .boolean) ∈ zTB := zinT_rfl (q := 727) rfl rfl
set_option maxRecDepth 100000 in
theorem zCD29 : Cond.code yX3_init cX3_init 1 none ∈ zTB := zinT_rfl (q := 370) rfl rfl
set_option maxRecDepth 100000 in
theorem zCD30 : Cond.code yX3_take cX3_take 3 none ∈ zTB := zinT_rfl (q := 871) rfl rfl
set_option maxRecDepth 100000 in
theorem zCD31 : Cond.code yX3_give cX3_give 3 none ∈ zTB := zinT_rfl (q := 884) rfl rfl
set_option maxRecDepth 100000 in
theorem zCD32 : Cond.code yX4_init cX4_init 1 none ∈ zTB := zinT_rfl (q := 123) rfl rfl
set_option maxRecDepth 100000 in
theorem zCD33 : Cond.code yX4_begin cX4_begin 1 none ∈ zTB := zinT_rfl (q := 390) rfl rfl
set_option maxRecDepth 100000 in
theorem zCD34 : Cond.code yX4_copyFrom cX4_copyFrom 2 none ∈ zTB := zinT_rfl (q := 509) rfl rfl
set_option maxRecDepth 100000 in
theorem zCD35 : Cond.code yX4_isAt cX4_isAt 3 (some .boolean) ∈ zTB := zinT_rfl (q := 556) rfl rfl
set_option maxRecDepth 100000 in
theorem zCD36 : Cond.code yX4_across cX4_across 3 (some .int) ∈ zTB := zinT_rfl (q := 569) rfl rfl
set_option maxRecDepth 100000 in
theorem zCD37 : Cond.code yX4_endBits cX4_endBits 2 (some .int) ∈ zTB := zinT_rfl (q := 629) rfl rfl
set_option maxRecDepth 100000 in
theorem zCD38 : Cond.code yX5_init cX5_init 2 none ∈ zTB := zinT_rfl (q := 270) rfl rfl
set_option maxRecDepth 100000 in
theorem zCD39 : Cond.code yX5_note cX5_note 2 none ∈ zTB := zinT_rfl (q := 560) rfl rfl
set_option maxRecDepth 100000 in
theorem zCD40 : Cond.code yX5_restore cX5_restore 2 none ∈ zTB := zinT_rfl (q := 607) rfl rfl
set_option maxRecDepth 100000 in
theorem zCD41 : Cond.code yX5_copyFrom cX5_copyFrom 3 none ∈ zTB := zinT_rfl (q := 876) rfl rfl
set_option maxRecDepth 100000 in
theorem zCD42 : Cond.code yX6_init cX6_init 2 none ∈ zTB := zinT_rfl (q := 321) rfl rfl
set_option maxRecDepth 100000 in
theorem zCD43 : Cond.code yX6_fewestHeard cX6_fewestHeard 4 (some .int) ∈ zTB := zinT_rfl (q := 737) rfl rfl
set_option maxRecDepth 100000 in
theorem zCD44 : Cond.code yX6_fewestCrossings cX6_fewestCrossings 4 (some .int) ∈ zTB := zinT_rfl (q := 752) rfl rfl
set_option maxRecDepth 100000 in
theorem zCD45 : Cond.code yX6_firstFence cX6_firstFence 5 (some .int) ∈ zTB := zinT_rfl (q := 756) rfl rfl
set_option maxRecDepth 100000 in
theorem zCD46 : Cond.code yX6_costOf cX6_costOf 3 (some .int) ∈ zTB := zinT_rfl (q := 746) rfl rfl
set_option maxRecDepth 100000 in
theorem zCD47 : Cond.code yX6_measure cX6_measure 8 none ∈ zTB := zinT_rfl (q := 741) rfl rfl
set_option maxRecDepth 100000 in
theorem zCD48 : Cond.code yX6_frostParts cX6_frostParts 4 (some .int) ∈ zTB := zinT_rfl (q := 806) rfl rfl
set_option maxRecDepth 100000 in
theorem zCD49 : Cond.code yX6_frostUnheard cX6_frostUnheard 8 (some .int) ∈ zTB := zinT_rfl (q := 813) rfl rfl
set_option maxRecDepth 100000 in
theorem zCD50 : Cond.code yX6_snappedFences cX6_snappedFences 4 (some .int) ∈ zTB := zinT_rfl (q := 818) rfl rfl
set_option maxRecDepth 100000 in
theorem zCD51 : Cond.code yX6_reaches cX6_reaches 7 (some .boolean) ∈ zTB := zinT_rfl (q := 822) rfl rfl
set_option maxRecDepth 100000 in
theorem zCD52 : Cond.code yX6_power cX6_power 4 (some .int) ∈ zTB := zinT_rfl (q := 809) rfl rfl
set_option maxRecDepth 100000 in
theorem zCD53 : Cond.code yX6_commonDivisor cX6_commonDivisor 6 (some .int) ∈ zTB := zinT_rfl (q := 826) rfl rfl
set_option maxRecDepth 100000 in
theorem zCD54 : Cond.code yX7_init cX7_init 1 none ∈ zTB := zinT_rfl (q := 210) rfl rfl
set_option maxRecDepth 100000 in
theorem zCD55 : Cond.code yX7_begin cX7_begin 2 none ∈ zTB := zinT_rfl (q := 398) rfl rfl
set_option maxRecDepth 100000 in
theorem zCD56 : Cond.code yX7_copyFrom cX7_copyFrom 2 none ∈ zTB := zinT_rfl (q := 564) rfl rfl
set_option maxRecDepth 100000 in
theorem zCD57 : Cond.code yX7_sing cX7_sing 2 none ∈ zTB := zinT_rfl (q := 573) rfl rfl
set_option maxRecDepth 100000 in
theorem zCD58 : Cond.code yX8_init cX8_init 1 none ∈ zTB := zinT_rfl (q := 93) rfl rfl
set_option maxRecDepth 100000 in
theorem zCD59 : Cond.code yX8_takes cX8_takes 2 (some .boolean) ∈ zTB := zinT_rfl (q := 443) rfl rfl
set_option maxRecDepth 100000 in
theorem zCD60 : Cond.code yX8_tell cX8_tell 4 (some .int) ∈ zTB := zinT_rfl (q := 455) rfl rfl
set_option maxRecDepth 100000 in
theorem zCD61 : Cond.code yX8_tellsFields cX8_tellsFields 2 (some .boolean) ∈ zTB := zinT_rfl (q := 481) rfl rfl
set_option maxRecDepth 100000 in
theorem zCD62 : Cond.code yX8_tellsFence cX8_tellsFence 3 (some .boolean) ∈ zTB := zinT_rfl (q := 489) rfl rfl
set_option maxRecDepth 100000 in
theorem zCD63 : Cond.code yX8_tellsKind cX8_tellsKind 3 (some .boolean) ∈ zTB := zinT_rfl (q := 493) rfl rfl
set_option maxRecDepth 100000 in
theorem zCD64 : Cond.code yX8_tellsBeast cX8_tellsBeast 3 (some .boolean) ∈ zTB := zinT_rfl (q := 497) rfl rfl
set_option maxRecDepth 100000 in
theorem zCD65 : Cond.code yX8_tellsWet cX8_tellsWet 2 (some .boolean) ∈ zTB := zinT_rfl (q := 501) rfl rfl
set_option maxRecDepth 100000 in
theorem zCD66 : Cond.code yX8_number cX8_number 3 (some .boolean) ∈ zTB := zinT_rfl (q := 485) rfl rfl
set_option maxRecDepth 100000 in
theorem zCD67 : Cond.code yX8_stops cX8_stops 1 (some .boolean) ∈ zTB := zinT_rfl (q := 505) rfl rfl
set_option maxRecDepth 100000 in
theorem zCD68 : Cond.code yX8_step cX8_step 1 none ∈ zTB := zinT_rfl (q := 460) rfl rfl
set_option maxRecDepth 100000 in
theorem zCD69 : Cond.code yX8_stepLetters cX8_stepLetters 1 none ∈ zTB := zinT_rfl (q := 467) rfl rfl
set_option maxRecDepth 100000 in
theorem zCD70 : Cond.code yX8_stepNumber cX8_stepNumber 2 none ∈ zTB := zinT_rfl (q := 474) rfl rfl
set_option maxRecDepth 100000 in
theorem zCD71 : Cond.code yX8_isLetter cX8_isLetter 1 (some .boolean) ∈ zTB := zinT_rfl (q := 463) rfl rfl
set_option maxRecDepth 100000 in
theorem zCD72 : Cond.code yX8_isDigit cX8_isDigit 1 (some .boolean) ∈ zTB := zinT_rfl (q := 470) rfl rfl
set_option maxRecDepth 100000 in
theorem zCD73 : Cond.code yX9_init cX9_init 2 none ∈ zTB := zinT_rfl (q := 85) rfl rfl
set_option maxRecDepth 100000 in
theorem zCD74 : Cond.code yX9_type cX9_type 2 (some .int) ∈ zTB := zinT_rfl (q := 439) rfl rfl
set_option maxRecDepth 100000 in
theorem zCD75 : Cond.code yX9_clear cX9_clear 2 (some .int) ∈ zTB := zinT_rfl (q := 447) rfl rfl
set_option maxRecDepth 100000 in
theorem zCD76 : Cond.code yX9_downs cX9_downs 2 (some .int) ∈ zTB := zinT_rfl (q := 451) rfl rfl
set_option maxRecDepth 100000 in
theorem zCD77 : Cond.code yX9_fence cX9_fence 3 (some .int) ∈ zTB := zinT_rfl (q := 514) rfl rfl
set_option maxRecDepth 100000 in
theorem zCD78 : Cond.code yX9_kind cX9_kind 3 (some .int) ∈ zTB := zinT_rfl (q := 522) rfl rfl
set_option maxRecDepth 100000 in
theorem zCD79 : Cond.code yX9_beast cX9_beast 3 (some .int) ∈ zTB := zinT_rfl (q := 531) rfl rfl
set_option maxRecDepth 100000 in
theorem zCD80 : Cond.code yX9_sound cX9_sound 3 (some .int) ∈ zTB := zinT_rfl (q := 539) rfl rfl
set_option maxRecDepth 100000 in
theorem zCD81 : Cond.code yX9_goes cX9_goes 5 (some .int) ∈ zTB := zinT_rfl (q := 552) rfl rfl
set_option maxRecDepth 100000 in
theorem zCD82 : Cond.code yX9_cuts cX9_cuts 3 (some .int) ∈ zTB := zinT_rfl (q := 578) rfl rfl
set_option maxRecDepth 100000 in
theorem zCD83 : Cond.code yX9_tunes cX9_tunes 4 (some .int) ∈ zTB := zinT_rfl (q := 591) rfl rfl
set_option maxRecDepth 100000 in
theorem zCD84 : Cond.code yX9_lays cX9_lays 3 (some .int) ∈ zTB := zinT_rfl (q := 595) rfl rfl
set_option maxRecDepth 100000 in
theorem zCD85 : Cond.code yX9_rains cX9_rains 3 (some .int) ∈ zTB := zinT_rfl (q := 599) rfl rfl
set_option maxRecDepth 100000 in
theorem zCD86 : Cond.code yX9_undo cX9_undo 1 (some .int) ∈ zTB := zinT_rfl (q := 603) rfl rfl
set_option maxRecDepth 100000 in
theorem zCD87 : Cond.code yX9_now cX9_now 2 (some .int) ∈ zTB := zinT_rfl (q := 612) rfl rfl
set_option maxRecDepth 100000 in
theorem zCD88 : Cond.code yX9_song cX9_song 2 (some .int) ∈ zTB := zinT_rfl (q := 650) rfl rfl
set_option maxRecDepth 100000 in
theorem zCD89 : Cond.code yX9_who cX9_who 2 (some .int) ∈ zTB := zinT_rfl (q := 654) rfl rfl
set_option maxRecDepth 100000 in
theorem zCD90 : Cond.code yX9_hears cX9_hears 2 (some .int) ∈ zTB := zinT_rfl (q := 664) rfl rfl
set_option maxRecDepth 100000 in
theorem zCD91 : Cond.code yX9_forget cX9_forget 2 (some .int) ∈ zTB := zinT_rfl (q := 672) rfl rfl
set_option maxRecDepth 100000 in
theorem zCD92 : Cond.code yX9_ways cX9_ways 3 (some .int) ∈ zTB := zinT_rfl (q := 676) rfl rfl
set_option maxRecDepth 100000 in
theorem zCD93 : Cond.code yX9_ends cX9_ends 2 (some .int) ∈ zTB := zinT_rfl (q := 694) rfl rfl
set_option maxRecDepth 100000 in
theorem zCD94 : Cond.code yX9_can cX9_can 1 (some .int) ∈ zTB := zinT_rfl (q := 706) rfl rfl
set_option maxRecDepth 100000 in
theorem zCD95 : Cond.code yX9_ask cX9_ask 1 (some .int) ∈ zTB := zinT_rfl (q := 715) rfl rfl
set_option maxRecDepth 100000 in
theorem zCD96 : Cond.code yX9_quiet cX9_quiet 5 (some .int) ∈ zTB := zinT_rfl (q := 733) rfl rfl
set_option maxRecDepth 100000 in
theorem zCD97 : Cond.code yX9_fifths cX9_fifths 2 (some .int) ∈ zTB := zinT_rfl (q := 762) rfl rfl
set_option maxRecDepth 100000 in
theorem zCD98 : Cond.code yX9_herd cX9_herd 2 (some .int) ∈ zTB := zinT_rfl (q := 777) rfl rfl
set_option maxRecDepth 100000 in
theorem zCD99 : Cond.code yX9_frost cX9_frost 10 (some .int) ∈ zTB := zinT_rfl (q := 802) rfl rfl
set_option maxRecDepth 100000 in
theorem zCD100 : Cond.code yX9_mark cX9_mark 3 (some .int) ∈ zTB := zinT_rfl (q := 831) rfl rfl
set_option maxRecDepth 100000 in
theorem zCD101 : Cond.code yX9_keep cX9_keep 2 (some .int) ∈ zTB := zinT_rfl (q := 864) rfl rfl
set_option maxRecDepth 100000 in
theorem zCD102 : Cond.code yX9_back cX9_back 2 (some .int) ∈ zTB := zinT_rfl (q := 880) rfl rfl
set_option maxRecDepth 100000 in
theorem zCD103 : Cond.code yX9_count cX9_count 2 (some .int) ∈ zTB := zinT_rfl (q := 888) rfl rfl
set_option maxRecDepth 100000 in
theorem zCD104 : Cond.code yX9_trace cX9_trace 1 (some .long) ∈ zTB := zinT_rfl (q := 892) rfl rfl
set_option maxRecDepth 100000 in
theorem zCD105 : Cond.code yX9_beginAnew cX9_beginAnew 2 none ∈ zTB := zinT_rfl (q := 394) rfl rfl
set_option maxRecDepth 100000 in
theorem zCD106 : Cond.code yX9_isField cX9_isField 2 (some .boolean) ∈ zTB := zinT_rfl (q := 680) rfl rfl
set_option maxRecDepth 100000 in
theorem zCD107 : Cond.code yX9_isFence cX9_isFence 2 (some .boolean) ∈ zTB := zinT_rfl (q := 518) rfl rfl
set_option maxRecDepth 100000 in
theorem zCD108 : Cond.code yX9_isKind cX9_isKind 2 (some .boolean) ∈ zTB := zinT_rfl (q := 526) rfl rfl
set_option maxRecDepth 100000 in
theorem zCD109 : Cond.code yX9_isBeast cX9_isBeast 2 (some .boolean) ∈ zTB := zinT_rfl (q := 535) rfl rfl
set_option maxRecDepth 100000 in
theorem zCD110 : Cond.code yX9_isImage cX9_isImage 1 (some .boolean) ∈ zTB := zinT_rfl (q := 867) rfl rfl
set_option maxRecDepth 100000 in
theorem zCD111 : Cond.code yX9_isFlag cX9_isFlag 1 (some .boolean) ∈ zTB := zinT_rfl (q := 581) rfl rfl
set_option maxRecDepth 100000 in
theorem zCD112 : Cond.code yX9_markString cX9_markString 2 (some .int) ∈ zTB := zinT_rfl (q := 835) rfl rfl
set_option maxRecDepth 100000 in
theorem zCD113 : Cond.code yX9_markBass cX9_markBass 2 (some .int) ∈ zTB := zinT_rfl (q := 839) rfl rfl
set_option maxRecDepth 100000 in
theorem zCD114 : Cond.code yX9_markTreble cX9_markTreble 2 (some .int) ∈ zTB := zinT_rfl (q := 844) rfl rfl
set_option maxRecDepth 100000 in
theorem zCD115 : Cond.code yX9_markBull cX9_markBull 2 (some .int) ∈ zTB := zinT_rfl (q := 849) rfl rfl
set_option maxRecDepth 100000 in
theorem zCD116 : Cond.code yX9_markLark cX9_markLark 2 (some .int) ∈ zTB := zinT_rfl (q := 854) rfl rfl
set_option maxRecDepth 100000 in
theorem zCD117 : Cond.code yX9_markPedal cX9_markPedal 2 (some .int) ∈ zTB := zinT_rfl (q := 859) rfl rfl
set_option maxRecDepth 100000 in
theorem zCD118 : Cond.code yX10_init cX10_init 1 none ∈ zTB := zinT_rfl (q := 897) rfl rfl
set_option maxRecDepth 100000 in
theorem zCD119 : Cond.code yX10_in cX10_in 3 (some .boolean) ∈ zTB := zinT_rfl (q := 1004) rfl rfl
set_option maxRecDepth 100000 in
theorem zCD120 : Cond.code yX10_has cX10_has 2 (some .boolean) ∈ zTB := zinT_rfl (q := 1051) rfl rfl
set_option maxRecDepth 100000 in
theorem zCD121 : Cond.code yX10_type cX10_type 2 (some .int) ∈ zTB := zinT_rfl (q := 1001) rfl rfl
set_option maxRecDepth 100000 in
theorem zCD122 : Cond.code yX10_clear cX10_clear 2 (some .int) ∈ zTB := zinT_rfl (q := 1008) rfl rfl
set_option maxRecDepth 100000 in
theorem zCD123 : Cond.code yX10_here cX10_here 1 (some .int) ∈ zTB := zinT_rfl (q := 1024) rfl rfl
set_option maxRecDepth 100000 in
theorem zCD124 : Cond.code yX10_step cX10_step 2 none ∈ zTB := zinT_rfl (q := 1020) rfl rfl
set_option maxRecDepth 100000 in
theorem zCD125 : Cond.code yX10_due cX10_due 2 none ∈ zTB := zinT_rfl (q := 1032) rfl rfl
set_option maxRecDepth 100000 in
theorem zCD126 : Cond.code yX10_number cX10_number 4 (some .int) ∈ zTB := zinT_rfl (q := 1040) rfl rfl
set_option maxRecDepth 100000 in
theorem zCD127 : Cond.code yX10_item cX10_item 4 none ∈ zTB := zinT_rfl (q := 1036) rfl rfl
set_option maxRecDepth 100000 in
theorem zCD128 : Cond.code yX10_may cX10_may 3 (some .boolean) ∈ zTB := zinT_rfl (q := 1028) rfl rfl
set_option maxRecDepth 100000 in
theorem zCD129 : Cond.code yX10_read cX10_read 3 none ∈ zTB := zinT_rfl (q := 1016) rfl rfl
set_option maxRecDepth 100000 in
theorem zCD130 : Cond.code yX10_downs cX10_downs 2 (some .int) ∈ zTB := zinT_rfl (q := 1012) rfl rfl
set_option maxRecDepth 100000 in
theorem zCD131 : Cond.code yX10_isField cX10_isField 2 (some .boolean) ∈ zTB := zinT_rfl (q := 1174) rfl rfl
set_option maxRecDepth 100000 in
theorem zCD132 : Cond.code yX10_isFence cX10_isFence 2 (some .boolean) ∈ zTB := zinT_rfl (q := 1048) rfl rfl
set_option maxRecDepth 100000 in
theorem zCD133 : Cond.code yX10_isKind cX10_isKind 2 (some .boolean) ∈ zTB := zinT_rfl (q := 1059) rfl rfl
set_option maxRecDepth 100000 in
theorem zCD134 : Cond.code yX10_isBeast cX10_isBeast 2 (some .boolean) ∈ zTB := zinT_rfl (q := 1068) rfl rfl
set_option maxRecDepth 100000 in
theorem zCD135 : Cond.code yX10_soundOf cX10_soundOf 4 (some .int) ∈ zTB := zinT_rfl (q := 1076) rfl rfl
set_option maxRecDepth 100000 in
theorem zCD136 : Cond.code yX10_isAt cX10_isAt 3 (some .boolean) ∈ zTB := zinT_rfl (q := 1084) rfl rfl
set_option maxRecDepth 100000 in
theorem zCD137 : Cond.code yX10_across cX10_across 3 (some .int) ∈ zTB := zinT_rfl (q := 1092) rfl rfl
set_option maxRecDepth 100000 in
theorem zCD138 : Cond.code yX10_isString cX10_isString 2 (some .boolean) ∈ zTB := zinT_rfl (q := 1138) rfl rfl
set_option maxRecDepth 100000 in
theorem zCD139 : Cond.code yX10_bitsOf cX10_bitsOf 3 (some .int) ∈ zTB := zinT_rfl (q := 1103) rfl rfl
set_option maxRecDepth 100000 in
theorem zCD140 : Cond.code yX10_allOf cX10_allOf 1 (some .int) ∈ zTB := zinT_rfl (q := 1114) rfl rfl
set_option maxRecDepth 100000 in
theorem zCD141 : Cond.code yX10_fence cX10_fence 3 (some .int) ∈ zTB := zinT_rfl (q := 1044) rfl rfl
set_option maxRecDepth 100000 in
theorem zCD142 : Cond.code yX10_kind cX10_kind 3 (some .int) ∈ zTB := zinT_rfl (q := 1055) rfl rfl
set_option maxRecDepth 100000 in
theorem zCD143 : Cond.code yX10_beast cX10_beast 3 (some .int) ∈ zTB := zinT_rfl (q := 1064) rfl rfl
set_option maxRecDepth 100000 in
theorem zCD144 : Cond.code yX10_sound cX10_sound 3 (some .int) ∈ zTB := zinT_rfl (q := 1072) rfl rfl
set_option maxRecDepth 100000 in
theorem zCD145 : Cond.code yX10_know cX10_know 2 none ∈ zTB := zinT_rfl (q := 1088) rfl rfl
set_option maxRecDepth 100000 in
theorem zCD146 : Cond.code yX10_sing cX10_sing 3 none ∈ zTB := zinT_rfl (q := 1096) rfl rfl
set_option maxRecDepth 100000 in
theorem zCD147 : Cond.code yX10_goes cX10_goes 4 (some .int) ∈ zTB := zinT_rfl (q := 1080) rfl rfl
set_option maxRecDepth 100000 in
theorem zCD148 : Cond.code yX10_cuts cX10_cuts 3 (some .int) ∈ zTB := zinT_rfl (q := 1100) rfl rfl
set_option maxRecDepth 100000 in
theorem zCD149 : Cond.code yX10_tunes cX10_tunes 4 (some .int) ∈ zTB := zinT_rfl (q := 1107) rfl rfl
set_option maxRecDepth 100000 in
theorem zCD150 : Cond.code yX10_lays cX10_lays 3 (some .int) ∈ zTB := zinT_rfl (q := 1111) rfl rfl
set_option maxRecDepth 100000 in
theorem zCD151 : Cond.code yX10_rains cX10_rains 2 (some .int) ∈ zTB := zinT_rfl (q := 1118) rfl rfl
set_option maxRecDepth 100000 in
theorem zCD152 : Cond.code yX10_undo cX10_undo 2 (some .int) ∈ zTB := zinT_rfl (q := 1122) rfl rfl
set_option maxRecDepth 100000 in
theorem zCD153 : Cond.code yX10_areAlike cX10_areAlike 4 (some .boolean) ∈ zTB := zinT_rfl (q := 1134) rfl rfl
set_option maxRecDepth 100000 in
theorem zCD154 : Cond.code yX10_alike cX10_alike 4 (some .int) ∈ zTB := zinT_rfl (q := 1130) rfl rfl
set_option maxRecDepth 100000 in
theorem zCD155 : Cond.code yX10_areApart cX10_areApart 5 (some .boolean) ∈ zTB := zinT_rfl (q := 1146) rfl rfl
set_option maxRecDepth 100000 in
theorem zCD156 : Cond.code yX10_areHeard cX10_areHeard 4 (some .boolean) ∈ zTB := zinT_rfl (q := 1150) rfl rfl
set_option maxRecDepth 100000 in
theorem zCD157 : Cond.code yX10_fewest cX10_fewest 6 (some .int) ∈ zTB := zinT_rfl (q := 1142) rfl rfl
set_option maxRecDepth 100000 in
theorem zCD158 : Cond.code yX10_now cX10_now 2 (some .int) ∈ zTB := zinT_rfl (q := 1126) rfl rfl
set_option maxRecDepth 100000 in
theorem zCD159 : Cond.code yX10_song cX10_song 2 (some .int) ∈ zTB := zinT_rfl (q := 1154) rfl rfl
set_option maxRecDepth 100000 in
theorem zCD160 : Cond.code yX10_who cX10_who 6 (some .int) ∈ zTB := zinT_rfl (q := 1158) rfl rfl
set_option maxRecDepth 100000 in
theorem zCD161 : Cond.code yX10_hears cX10_hears 2 (some .int) ∈ zTB := zinT_rfl (q := 1162) rfl rfl
set_option maxRecDepth 100000 in
theorem zCD162 : Cond.code yX10_forget cX10_forget 2 (some .int) ∈ zTB := zinT_rfl (q := 1166) rfl rfl
set_option maxRecDepth 100000 in
theorem zCD163 : Cond.code yX10_ways cX10_ways 5 (some .int) ∈ zTB := zinT_rfl (q := 1170) rfl rfl
set_option maxRecDepth 100000 in
theorem zCD164 : Cond.code yX10_endsOf cX10_endsOf 6 (some .int) ∈ zTB := zinT_rfl (q := 1183) rfl rfl
set_option maxRecDepth 100000 in
theorem zCD165 : Cond.code yX10_ends cX10_ends 2 (some .int) ∈ zTB := zinT_rfl (q := 1179) rfl rfl
set_option maxRecDepth 100000 in
theorem zCD166 : Cond.code yX10_can cX10_can 3 (some .int) ∈ zTB := zinT_rfl (q := 1187) rfl rfl
set_option maxRecDepth 100000 in
theorem zCD167 : Cond.code yX10_comesTo cX10_comesTo 4 (some .boolean) ∈ zTB := zinT_rfl (q := 1195) rfl rfl
set_option maxRecDepth 100000 in
theorem zCD168 : Cond.code yX10_ask cX10_ask 8 (some .int) ∈ zTB := zinT_rfl (q := 1191) rfl rfl
set_option maxRecDepth 100000 in
theorem zCD169 : Cond.code yX10_costOf cX10_costOf 3 (some .int) ∈ zTB := zinT_rfl (q := 1208) rfl rfl
set_option maxRecDepth 100000 in
theorem zCD170 : Cond.code yX10_measure cX10_measure 7 none ∈ zTB := zinT_rfl (q := 1203) rfl rfl
set_option maxRecDepth 100000 in
theorem zCD171 : Cond.code yX10_quiet cX10_quiet 8 (some .int) ∈ zTB := zinT_rfl (q := 1199) rfl rfl
set_option maxRecDepth 100000 in
theorem zCD172 : Cond.code yX10_fifthsOf cX10_fifthsOf 7 (some .int) ∈ zTB := zinT_rfl (q := 1216) rfl rfl
set_option maxRecDepth 100000 in
theorem zCD173 : Cond.code yX10_fifths cX10_fifths 2 (some .int) ∈ zTB := zinT_rfl (q := 1212) rfl rfl
set_option maxRecDepth 100000 in
theorem zCD174 : Cond.code yX10_milkBy cX10_milkBy 5 (some .int) ∈ zTB := zinT_rfl (q := 1224) rfl rfl
set_option maxRecDepth 100000 in
theorem zCD175 : Cond.code yX10_herd cX10_herd 7 (some .int) ∈ zTB := zinT_rfl (q := 1220) rfl rfl
set_option maxRecDepth 100000 in
theorem zCD176 : Cond.code yX10_isUnheard cX10_isUnheard 10 (some .boolean) ∈ zTB := zinT_rfl (q := 1232) rfl rfl
set_option maxRecDepth 100000 in
theorem zCD177 : Cond.code yX10_frost cX10_frost 13 (some .int) ∈ zTB := zinT_rfl (q := 1228) rfl rfl
set_option maxRecDepth 100000 in
theorem zCD178 : Cond.code yX10_bodiesOf cX10_bodiesOf 1 (some .int) ∈ zTB := zinT_rfl (q := 1239) rfl rfl
set_option maxRecDepth 100000 in
theorem zCD179 : Cond.code yX10_mark cX10_mark 7 (some .int) ∈ zTB := zinT_rfl (q := 1236) rfl rfl
set_option maxRecDepth 100000 in
theorem zCD180 : Cond.code yX10_trace cX10_trace 1 (some .long) ∈ zTB := zinT_rfl (q := 1244) rfl rfl
set_option maxRecDepth 100000 in
theorem zCD181 : Cond.code yX10_keep cX10_keep 3 (some .int) ∈ zTB := zinT_rfl (q := 1248) rfl rfl
set_option maxRecDepth 100000 in
theorem zCD182 : Cond.code yX10_back cX10_back 3 (some .int) ∈ zTB := zinT_rfl (q := 1252) rfl rfl
set_option maxRecDepth 100000 in
theorem zCD183 : Cond.code yX10_count cX10_count 2 (some .int) ∈ zTB := zinT_rfl (q := 1256) rfl rfl
set_option maxRecDepth 100000 in
theorem zCD184 : Cond.code yJ6_bitCount_0f7a4 cJ6_bitCount_0f7a4 1 (some .int) ∈ zTB := zinT_rfl (q := 584) rfl rfl
def zCDP (N : zMe) : Prop := Cond.code N.1 N.2.1 N.2.2.1 N.2.2.2.1 ∈ zTB
theorem zCDc0 : ∀ N ∈ zMT.take 31 |>.drop 0, zCDP N := by
  show ∀ N ∈ ([(yX0_init, cX0_init, 2, none, 0, 1, 21), (yX0_alike, cX0_alike, 3, (some .int), 0, 3, 65), (yX0_fewestTuned, cX0_fewestTuned, 1, (some .int), 0, 3, 65), (yX0_fewestEars, cX0_fewestEars, 2, (some .int), 0, 2, 46), (yX0_partnerAlikes, cX0_partnerAlikes, 3, none, 0, 2, 43), (yX0_areAlike, cX0_areAlike, 3, (some .boolean), 0, 1, 21), (yX0_fewestOfEachTwo, cX0_fewestOfEachTwo, 4, (some .int), 0, 1, 23), (yX0_hasOneOfEachTwo, cX0_hasOneOfEachTwo, 4, (some .boolean), 0, 0, 0), (yX0_mostMilk, cX0_mostMilk, 1, (some .int), 0, 4, 91), (yX0_fieldInHerd, cX0_fieldInHerd, 5, (some .int), 0, 4, 91), (yX0_bestField, cX0_bestField, 4, (some .int), 0, 1, 23), (yX0_measureHerds, cX0_measureHerds, 4, none, 0, 3, 68), (yX0_milkWith, cX0_milkWith, 4, (some .int), 0, 0, 0), (yX1_init, cX1_init, 3, none, 1, 1, 20), (yX1_isString, cX1_isString, 2, (some .boolean), 1, 0, 0), (yX1_soundTo, cX1_soundTo, 3, (some .int), 1, 1, 21), (yX1_fifthsAt, cX1_fifthsAt, 5, (some .int), 1, 2, 44), (yX1_isStringAt, cX1_isStringAt, 3, (some .boolean), 1, 1, 22), (yX1_beastsThatSound, cX1_beastsThatSound, 5, (some .int), 1, 2, 43), (yX2_init, cX2_init, 2, none, 2, 1, 20), (yX2_takes, cX2_takes, 2, (some .boolean), 2, 0, 0), (yX2_rowsFrom, cX2_rowsFrom, 5, (some .int), 2, 3, 68), (yX2_crossAll, cX2_crossAll, 6, none, 2, 2, 43), (yX2_endsOf, cX2_endsOf, 4, (some .int), 2, 3, 68), (yX2_endsBehind, cX2_endsBehind, 6, (some .int), 2, 2, 43), (yX2_kindsThatCan, cX2_kindsThatCan, 3, (some .int), 2, 4, 91), (yX2_fenceToWatch, cX2_fenceToWatch, 5, (some .int), 2, 4, 91), (yX2_greatestCrowd, cX2_greatestCrowd, 6, (some .int), 2, 2, 43), (yX2_comesTo, cX2_comesTo, 3, (some .boolean), 2, 1, 21), (yX3_init, cX3_init, 1, none, 3, 3, 61), (yX3_take, cX3_take, 3, none, 3, 3, 69)] : List zMe), zCDP N
  exact List.forall_mem_cons.mpr ⟨zCD0,  List.forall_mem_cons.mpr ⟨zCD1,  List.forall_mem_cons.mpr ⟨zCD2,  List.forall_mem_cons.mpr ⟨zCD3,  List.forall_mem_cons.mpr ⟨zCD4,  List.forall_mem_cons.mpr ⟨zCD5,  List.forall_mem_cons.mpr ⟨zCD6,  List.forall_mem_cons.mpr ⟨zCD7,  List.forall_mem_cons.mpr ⟨zCD8,  List.forall_mem_cons.mpr ⟨zCD9,  List.forall_mem_cons.mpr ⟨zCD10,  List.forall_mem_cons.mpr ⟨zCD11,  List.forall_mem_cons.mpr ⟨zCD12,  List.forall_mem_cons.mpr ⟨zCD13,  List.forall_mem_cons.mpr ⟨zCD14,  List.forall_mem_cons.mpr ⟨zCD15,  List.forall_mem_cons.mpr ⟨zCD16,  List.forall_mem_cons.mpr ⟨zCD17,  List.forall_mem_cons.mpr ⟨zCD18,  List.forall_mem_cons.mpr ⟨zCD19,  List.forall_mem_cons.mpr ⟨zCD20,  List.forall_mem_cons.mpr ⟨zCD21,  List.forall_mem_cons.mpr ⟨zCD22,  List.forall_mem_cons.mpr ⟨zCD23,  List.forall_mem_cons.mpr ⟨zCD24,  List.forall_mem_cons.mpr ⟨zCD25,  List.forall_mem_cons.mpr ⟨zCD26,  List.forall_mem_cons.mpr ⟨zCD27,  List.forall_mem_cons.mpr ⟨zCD28,  List.forall_mem_cons.mpr ⟨zCD29,  List.forall_mem_cons.mpr ⟨zCD30, fun _ h => absurd h List.not_mem_nil⟩⟩⟩⟩⟩⟩⟩⟩⟩⟩⟩⟩⟩⟩⟩⟩⟩⟩⟩⟩⟩⟩⟩⟩⟩⟩⟩⟩⟩⟩⟩
theorem zCDc31 : ∀ N ∈ zMT.take 62 |>.drop 31, zCDP N := by
  show ∀ N ∈ ([(yX3_give, cX3_give, 3, none, 3, 3, 69), (yX4_init, cX4_init, 1, none, 4, 1, 20), (yX4_begin, cX4_begin, 1, none, 4, 0, 0), (yX4_copyFrom, cX4_copyFrom, 2, none, 4, 1, 26), (yX4_isAt, cX4_isAt, 3, (some .boolean), 4, 0, 0), (yX4_across, cX4_across, 3, (some .int), 4, 0, 0), (yX4_endBits, cX4_endBits, 2, (some .int), 4, 0, 0), (yX5_init, cX5_init, 2, none, 5, 2, 40), (yX5_note, cX5_note, 2, none, 5, 2, 47), (yX5_restore, cX5_restore, 2, none, 5, 2, 47), (yX5_copyFrom, cX5_copyFrom, 3, none, 5, 2, 47), (yX6_init, cX6_init, 2, none, 6, 1, 20), (yX6_fewestHeard, cX6_fewestHeard, 4, (some .int), 6, 4, 92), (yX6_fewestCrossings, cX6_fewestCrossings, 4, (some .int), 6, 4, 92), (yX6_firstFence, cX6_firstFence, 5, (some .int), 6, 4, 92), (yX6_costOf, cX6_costOf, 3, (some .int), 6, 2, 43), (yX6_measure, cX6_measure, 8, none, 6, 3, 65), (yX6_frostParts, cX6_frostParts, 4, (some .int), 6, 2, 43), (yX6_frostUnheard, cX6_frostUnheard, 8, (some .int), 6, 2, 47), (yX6_snappedFences, cX6_snappedFences, 4, (some .int), 6, 0, 0), (yX6_reaches, cX6_reaches, 7, (some .boolean), 6, 1, 21), (yX6_power, cX6_power, 4, (some .int), 6, 0, 0), (yX6_commonDivisor, cX6_commonDivisor, 6, (some .int), 6, 0, 0), (yX7_init, cX7_init, 1, none, 7, 1, 20), (yX7_begin, cX7_begin, 2, none, 7, 1, 26), (yX7_copyFrom, cX7_copyFrom, 2, none, 7, 1, 26), (yX7_sing, cX7_sing, 2, none, 7, 1, 26), (yX8_init, cX8_init, 1, none, 8, 1, 20), (yX8_takes, cX8_takes, 2, (some .boolean), 8, 0, 0), (yX8_tell, cX8_tell, 4, (some .int), 8, 5, 106), (yX8_tellsFields, cX8_tellsFields, 2, (some .boolean), 8, 4, 84)] : List zMe), zCDP N
  exact List.forall_mem_cons.mpr ⟨zCD31,  List.forall_mem_cons.mpr ⟨zCD32,  List.forall_mem_cons.mpr ⟨zCD33,  List.forall_mem_cons.mpr ⟨zCD34,  List.forall_mem_cons.mpr ⟨zCD35,  List.forall_mem_cons.mpr ⟨zCD36,  List.forall_mem_cons.mpr ⟨zCD37,  List.forall_mem_cons.mpr ⟨zCD38,  List.forall_mem_cons.mpr ⟨zCD39,  List.forall_mem_cons.mpr ⟨zCD40,  List.forall_mem_cons.mpr ⟨zCD41,  List.forall_mem_cons.mpr ⟨zCD42,  List.forall_mem_cons.mpr ⟨zCD43,  List.forall_mem_cons.mpr ⟨zCD44,  List.forall_mem_cons.mpr ⟨zCD45,  List.forall_mem_cons.mpr ⟨zCD46,  List.forall_mem_cons.mpr ⟨zCD47,  List.forall_mem_cons.mpr ⟨zCD48,  List.forall_mem_cons.mpr ⟨zCD49,  List.forall_mem_cons.mpr ⟨zCD50,  List.forall_mem_cons.mpr ⟨zCD51,  List.forall_mem_cons.mpr ⟨zCD52,  List.forall_mem_cons.mpr ⟨zCD53,  List.forall_mem_cons.mpr ⟨zCD54,  List.forall_mem_cons.mpr ⟨zCD55,  List.forall_mem_cons.mpr ⟨zCD56,  List.forall_mem_cons.mpr ⟨zCD57,  List.forall_mem_cons.mpr ⟨zCD58,  List.forall_mem_cons.mpr ⟨zCD59,  List.forall_mem_cons.mpr ⟨zCD60,  List.forall_mem_cons.mpr ⟨zCD61, fun _ h => absurd h List.not_mem_nil⟩⟩⟩⟩⟩⟩⟩⟩⟩⟩⟩⟩⟩⟩⟩⟩⟩⟩⟩⟩⟩⟩⟩⟩⟩⟩⟩⟩⟩⟩⟩
theorem zCDc62 : ∀ N ∈ zMT.take 93 |>.drop 62, zCDP N := by
  show ∀ N ∈ ([(yX8_tellsFence, cX8_tellsFence, 3, (some .boolean), 8, 4, 84), (yX8_tellsKind, cX8_tellsKind, 3, (some .boolean), 8, 4, 84), (yX8_tellsBeast, cX8_tellsBeast, 3, (some .boolean), 8, 4, 84), (yX8_tellsWet, cX8_tellsWet, 2, (some .boolean), 8, 4, 84), (yX8_number, cX8_number, 3, (some .boolean), 8, 3, 62), (yX8_stops, cX8_stops, 1, (some .boolean), 8, 3, 62), (yX8_step, cX8_step, 1, none, 8, 2, 42), (yX8_stepLetters, cX8_stepLetters, 1, none, 8, 1, 20), (yX8_stepNumber, cX8_stepNumber, 2, none, 8, 1, 21), (yX8_isLetter, cX8_isLetter, 1, (some .boolean), 8, 0, 0), (yX8_isDigit, cX8_isDigit, 1, (some .boolean), 8, 0, 0), (yX9_init, cX9_init, 2, none, 9, 4, 81), (yX9_type, cX9_type, 2, (some .int), 9, 1, 21), (yX9_clear, cX9_clear, 2, (some .int), 9, 0, 0), (yX9_downs, cX9_downs, 2, (some .int), 9, 6, 129), (yX9_fence, cX9_fence, 3, (some .int), 9, 1, 21), (yX9_kind, cX9_kind, 3, (some .int), 9, 1, 21), (yX9_beast, cX9_beast, 3, (some .int), 9, 1, 21), (yX9_sound, cX9_sound, 3, (some .int), 9, 2, 43), (yX9_goes, cX9_goes, 5, (some .int), 9, 3, 68), (yX9_cuts, cX9_cuts, 3, (some .int), 9, 3, 68), (yX9_tunes, cX9_tunes, 4, (some .int), 9, 3, 68), (yX9_lays, cX9_lays, 3, (some .int), 9, 3, 68), (yX9_rains, cX9_rains, 3, (some .int), 9, 3, 68), (yX9_undo, cX9_undo, 1, (some .int), 9, 3, 68), (yX9_now, cX9_now, 2, (some .int), 9, 4, 87), (yX9_song, cX9_song, 2, (some .int), 9, 0, 0), (yX9_who, cX9_who, 2, (some .int), 9, 3, 67), (yX9_hears, cX9_hears, 2, (some .int), 9, 1, 21), (yX9_forget, cX9_forget, 2, (some .int), 9, 0, 0), (yX9_ways, cX9_ways, 3, (some .int), 9, 4, 92)] : List zMe), zCDP N
  exact List.forall_mem_cons.mpr ⟨zCD62,  List.forall_mem_cons.mpr ⟨zCD63,  List.forall_mem_cons.mpr ⟨zCD64,  List.forall_mem_cons.mpr ⟨zCD65,  List.forall_mem_cons.mpr ⟨zCD66,  List.forall_mem_cons.mpr ⟨zCD67,  List.forall_mem_cons.mpr ⟨zCD68,  List.forall_mem_cons.mpr ⟨zCD69,  List.forall_mem_cons.mpr ⟨zCD70,  List.forall_mem_cons.mpr ⟨zCD71,  List.forall_mem_cons.mpr ⟨zCD72,  List.forall_mem_cons.mpr ⟨zCD73,  List.forall_mem_cons.mpr ⟨zCD74,  List.forall_mem_cons.mpr ⟨zCD75,  List.forall_mem_cons.mpr ⟨zCD76,  List.forall_mem_cons.mpr ⟨zCD77,  List.forall_mem_cons.mpr ⟨zCD78,  List.forall_mem_cons.mpr ⟨zCD79,  List.forall_mem_cons.mpr ⟨zCD80,  List.forall_mem_cons.mpr ⟨zCD81,  List.forall_mem_cons.mpr ⟨zCD82,  List.forall_mem_cons.mpr ⟨zCD83,  List.forall_mem_cons.mpr ⟨zCD84,  List.forall_mem_cons.mpr ⟨zCD85,  List.forall_mem_cons.mpr ⟨zCD86,  List.forall_mem_cons.mpr ⟨zCD87,  List.forall_mem_cons.mpr ⟨zCD88,  List.forall_mem_cons.mpr ⟨zCD89,  List.forall_mem_cons.mpr ⟨zCD90,  List.forall_mem_cons.mpr ⟨zCD91,  List.forall_mem_cons.mpr ⟨zCD92, fun _ h => absurd h List.not_mem_nil⟩⟩⟩⟩⟩⟩⟩⟩⟩⟩⟩⟩⟩⟩⟩⟩⟩⟩⟩⟩⟩⟩⟩⟩⟩⟩⟩⟩⟩⟩⟩
theorem zCDc93 : ∀ N ∈ zMT.take 124 |>.drop 93, zCDP N := by
  show ∀ N ∈ ([(yX9_ends, cX9_ends, 2, (some .int), 9, 4, 91), (yX9_can, cX9_can, 1, (some .int), 9, 5, 113), (yX9_ask, cX9_ask, 1, (some .int), 9, 5, 115), (yX9_quiet, cX9_quiet, 5, (some .int), 9, 5, 116), (yX9_fifths, cX9_fifths, 2, (some .int), 9, 3, 68), (yX9_herd, cX9_herd, 2, (some .int), 9, 5, 115), (yX9_frost, cX9_frost, 10, (some .int), 9, 3, 74), (yX9_mark, cX9_mark, 3, (some .int), 9, 5, 110), (yX9_keep, cX9_keep, 2, (some .int), 9, 4, 91), (yX9_back, cX9_back, 2, (some .int), 9, 4, 91), (yX9_count, cX9_count, 2, (some .int), 9, 0, 0), (yX9_trace, cX9_trace, 1, (some .long), 9, 0, 0), (yX9_beginAnew, cX9_beginAnew, 2, none, 9, 2, 47), (yX9_isField, cX9_isField, 2, (some .boolean), 9, 0, 0), (yX9_isFence, cX9_isFence, 2, (some .boolean), 9, 0, 0), (yX9_isKind, cX9_isKind, 2, (some .boolean), 9, 0, 0), (yX9_isBeast, cX9_isBeast, 2, (some .boolean), 9, 0, 0), (yX9_isImage, cX9_isImage, 1, (some .boolean), 9, 0, 0), (yX9_isFlag, cX9_isFlag, 1, (some .boolean), 9, 0, 0), (yX9_markString, cX9_markString, 2, (some .int), 9, 0, 0), (yX9_markBass, cX9_markBass, 2, (some .int), 9, 1, 21), (yX9_markTreble, cX9_markTreble, 2, (some .int), 9, 3, 68), (yX9_markBull, cX9_markBull, 2, (some .int), 9, 2, 42), (yX9_markLark, cX9_markLark, 2, (some .int), 9, 4, 89), (yX9_markPedal, cX9_markPedal, 2, (some .int), 9, 1, 21), (yX10_init, cX10_init, 1, none, 10, 1, 20), (yX10_in, cX10_in, 3, (some .boolean), 10, 0, 0), (yX10_has, cX10_has, 2, (some .boolean), 10, 0, 0), (yX10_type, cX10_type, 2, (some .int), 10, 1, 22), (yX10_clear, cX10_clear, 2, (some .int), 10, 0, 0), (yX10_here, cX10_here, 1, (some .int), 10, 0, 0)] : List zMe), zCDP N
  exact List.forall_mem_cons.mpr ⟨zCD93,  List.forall_mem_cons.mpr ⟨zCD94,  List.forall_mem_cons.mpr ⟨zCD95,  List.forall_mem_cons.mpr ⟨zCD96,  List.forall_mem_cons.mpr ⟨zCD97,  List.forall_mem_cons.mpr ⟨zCD98,  List.forall_mem_cons.mpr ⟨zCD99,  List.forall_mem_cons.mpr ⟨zCD100,  List.forall_mem_cons.mpr ⟨zCD101,  List.forall_mem_cons.mpr ⟨zCD102,  List.forall_mem_cons.mpr ⟨zCD103,  List.forall_mem_cons.mpr ⟨zCD104,  List.forall_mem_cons.mpr ⟨zCD105,  List.forall_mem_cons.mpr ⟨zCD106,  List.forall_mem_cons.mpr ⟨zCD107,  List.forall_mem_cons.mpr ⟨zCD108,  List.forall_mem_cons.mpr ⟨zCD109,  List.forall_mem_cons.mpr ⟨zCD110,  List.forall_mem_cons.mpr ⟨zCD111,  List.forall_mem_cons.mpr ⟨zCD112,  List.forall_mem_cons.mpr ⟨zCD113,  List.forall_mem_cons.mpr ⟨zCD114,  List.forall_mem_cons.mpr ⟨zCD115,  List.forall_mem_cons.mpr ⟨zCD116,  List.forall_mem_cons.mpr ⟨zCD117,  List.forall_mem_cons.mpr ⟨zCD118,  List.forall_mem_cons.mpr ⟨zCD119,  List.forall_mem_cons.mpr ⟨zCD120,  List.forall_mem_cons.mpr ⟨zCD121,  List.forall_mem_cons.mpr ⟨zCD122,  List.forall_mem_cons.mpr ⟨zCD123, fun _ h => absurd h List.not_mem_nil⟩⟩⟩⟩⟩⟩⟩⟩⟩⟩⟩⟩⟩⟩⟩⟩⟩⟩⟩⟩⟩⟩⟩⟩⟩⟩⟩⟩⟩⟩⟩
theorem zCDc124 : ∀ N ∈ zMT.take 155 |>.drop 124, zCDP N := by
  show ∀ N ∈ ([(yX10_step, cX10_step, 2, none, 10, 1, 22), (yX10_due, cX10_due, 2, none, 10, 2, 43), (yX10_number, cX10_number, 4, (some .int), 10, 3, 64), (yX10_item, cX10_item, 4, none, 10, 4, 87), (yX10_may, cX10_may, 3, (some .boolean), 10, 0, 0), (yX10_read, cX10_read, 3, none, 10, 5, 110), (yX10_downs, cX10_downs, 2, (some .int), 10, 6, 132), (yX10_isField, cX10_isField, 2, (some .boolean), 10, 1, 22), (yX10_isFence, cX10_isFence, 2, (some .boolean), 10, 1, 22), (yX10_isKind, cX10_isKind, 2, (some .boolean), 10, 1, 22), (yX10_isBeast, cX10_isBeast, 2, (some .boolean), 10, 1, 22), (yX10_soundOf, cX10_soundOf, 4, (some .int), 10, 1, 21), (yX10_isAt, cX10_isAt, 3, (some .boolean), 10, 0, 0), (yX10_across, cX10_across, 3, (some .int), 10, 0, 0), (yX10_isString, cX10_isString, 2, (some .boolean), 10, 1, 21), (yX10_bitsOf, cX10_bitsOf, 3, (some .int), 10, 0, 0), (yX10_allOf, cX10_allOf, 1, (some .int), 10, 0, 0), (yX10_fence, cX10_fence, 3, (some .int), 10, 2, 43), (yX10_kind, cX10_kind, 3, (some .int), 10, 2, 43), (yX10_beast, cX10_beast, 3, (some .int), 10, 2, 43), (yX10_sound, cX10_sound, 3, (some .int), 10, 2, 44), (yX10_know, cX10_know, 2, none, 10, 0, 0), (yX10_sing, cX10_sing, 3, none, 10, 0, 0), (yX10_goes, cX10_goes, 4, (some .int), 10, 2, 44), (yX10_cuts, cX10_cuts, 3, (some .int), 10, 2, 43), (yX10_tunes, cX10_tunes, 4, (some .int), 10, 2, 43), (yX10_lays, cX10_lays, 3, (some .int), 10, 1, 22), (yX10_rains, cX10_rains, 2, (some .int), 10, 1, 22), (yX10_undo, cX10_undo, 2, (some .int), 10, 0, 0), (yX10_areAlike, cX10_areAlike, 4, (some .boolean), 10, 2, 42), (yX10_alike, cX10_alike, 4, (some .int), 10, 3, 65)] : List zMe), zCDP N
  exact List.forall_mem_cons.mpr ⟨zCD124,  List.forall_mem_cons.mpr ⟨zCD125,  List.forall_mem_cons.mpr ⟨zCD126,  List.forall_mem_cons.mpr ⟨zCD127,  List.forall_mem_cons.mpr ⟨zCD128,  List.forall_mem_cons.mpr ⟨zCD129,  List.forall_mem_cons.mpr ⟨zCD130,  List.forall_mem_cons.mpr ⟨zCD131,  List.forall_mem_cons.mpr ⟨zCD132,  List.forall_mem_cons.mpr ⟨zCD133,  List.forall_mem_cons.mpr ⟨zCD134,  List.forall_mem_cons.mpr ⟨zCD135,  List.forall_mem_cons.mpr ⟨zCD136,  List.forall_mem_cons.mpr ⟨zCD137,  List.forall_mem_cons.mpr ⟨zCD138,  List.forall_mem_cons.mpr ⟨zCD139,  List.forall_mem_cons.mpr ⟨zCD140,  List.forall_mem_cons.mpr ⟨zCD141,  List.forall_mem_cons.mpr ⟨zCD142,  List.forall_mem_cons.mpr ⟨zCD143,  List.forall_mem_cons.mpr ⟨zCD144,  List.forall_mem_cons.mpr ⟨zCD145,  List.forall_mem_cons.mpr ⟨zCD146,  List.forall_mem_cons.mpr ⟨zCD147,  List.forall_mem_cons.mpr ⟨zCD148,  List.forall_mem_cons.mpr ⟨zCD149,  List.forall_mem_cons.mpr ⟨zCD150,  List.forall_mem_cons.mpr ⟨zCD151,  List.forall_mem_cons.mpr ⟨zCD152,  List.forall_mem_cons.mpr ⟨zCD153,  List.forall_mem_cons.mpr ⟨zCD154, fun _ h => absurd h List.not_mem_nil⟩⟩⟩⟩⟩⟩⟩⟩⟩⟩⟩⟩⟩⟩⟩⟩⟩⟩⟩⟩⟩⟩⟩⟩⟩⟩⟩⟩⟩⟩⟩
theorem zCDc155 : ∀ N ∈ zMT.take 185 |>.drop 155, zCDP N := by
  show ∀ N ∈ ([(yX10_areApart, cX10_areApart, 5, (some .boolean), 10, 3, 65), (yX10_areHeard, cX10_areHeard, 4, (some .boolean), 10, 2, 42), (yX10_fewest, cX10_fewest, 6, (some .int), 10, 4, 89), (yX10_now, cX10_now, 2, (some .int), 10, 5, 114), (yX10_song, cX10_song, 2, (some .int), 10, 1, 22), (yX10_who, cX10_who, 6, (some .int), 10, 2, 44), (yX10_hears, cX10_hears, 2, (some .int), 10, 1, 22), (yX10_forget, cX10_forget, 2, (some .int), 10, 0, 0), (yX10_ways, cX10_ways, 5, (some .int), 10, 2, 44), (yX10_endsOf, cX10_endsOf, 6, (some .int), 10, 2, 44), (yX10_ends, cX10_ends, 2, (some .int), 10, 3, 69), (yX10_can, cX10_can, 3, (some .int), 10, 3, 69), (yX10_comesTo, cX10_comesTo, 4, (some .boolean), 10, 3, 69), (yX10_ask, cX10_ask, 8, (some .int), 10, 4, 92), (yX10_costOf, cX10_costOf, 3, (some .int), 10, 2, 44), (yX10_measure, cX10_measure, 7, none, 10, 3, 66), (yX10_quiet, cX10_quiet, 8, (some .int), 10, 4, 92), (yX10_fifthsOf, cX10_fifthsOf, 7, (some .int), 10, 2, 42), (yX10_fifths, cX10_fifths, 2, (some .int), 10, 3, 68), (yX10_milkBy, cX10_milkBy, 5, (some .int), 10, 3, 68), (yX10_herd, cX10_herd, 7, (some .int), 10, 4, 92), (yX10_isUnheard, cX10_isUnheard, 10, (some .boolean), 10, 2, 44), (yX10_frost, cX10_frost, 13, (some .int), 10, 3, 73), (yX10_bodiesOf, cX10_bodiesOf, 1, (some .int), 10, 0, 0), (yX10_mark, cX10_mark, 7, (some .int), 10, 3, 68), (yX10_trace, cX10_trace, 1, (some .long), 10, 0, 0), (yX10_keep, cX10_keep, 3, (some .int), 10, 1, 22), (yX10_back, cX10_back, 3, (some .int), 10, 1, 22), (yX10_count, cX10_count, 2, (some .int), 10, 0, 0), (yJ6_bitCount_0f7a4, cJ6_bitCount_0f7a4, 1, (some .int), 11, 0, 0)] : List zMe), zCDP N
  exact List.forall_mem_cons.mpr ⟨zCD155,  List.forall_mem_cons.mpr ⟨zCD156,  List.forall_mem_cons.mpr ⟨zCD157,  List.forall_mem_cons.mpr ⟨zCD158,  List.forall_mem_cons.mpr ⟨zCD159,  List.forall_mem_cons.mpr ⟨zCD160,  List.forall_mem_cons.mpr ⟨zCD161,  List.forall_mem_cons.mpr ⟨zCD162,  List.forall_mem_cons.mpr ⟨zCD163,  List.forall_mem_cons.mpr ⟨zCD164,  List.forall_mem_cons.mpr ⟨zCD165,  List.forall_mem_cons.mpr ⟨zCD166,  List.forall_mem_cons.mpr ⟨zCD167,  List.forall_mem_cons.mpr ⟨zCD168,  List.forall_mem_cons.mpr ⟨zCD169,  List.forall_mem_cons.mpr ⟨zCD170,  List.forall_mem_cons.mpr ⟨zCD171,  List.forall_mem_cons.mpr ⟨zCD172,  List.forall_mem_cons.mpr ⟨zCD173,  List.forall_mem_cons.mpr ⟨zCD174,  List.forall_mem_cons.mpr ⟨zCD175,  List.forall_mem_cons.mpr ⟨zCD176,  List.forall_mem_cons.mpr ⟨zCD177,  List.forall_mem_cons.mpr ⟨zCD178,  List.forall_mem_cons.mpr ⟨zCD179,  List.forall_mem_cons.mpr ⟨zCD180,  List.forall_mem_cons.mpr ⟨zCD181,  List.forall_mem_cons.mpr ⟨zCD182,  List.forall_mem_cons.mpr ⟨zCD183,  List.forall_mem_cons.mpr ⟨zCD184, fun _ h => absurd h List.not_mem_nil⟩⟩⟩⟩⟩⟩⟩⟩⟩⟩⟩⟩⟩⟩⟩⟩⟩⟩⟩⟩⟩⟩⟩⟩⟩⟩⟩⟩⟩⟩
theorem zCD_of {k : Nat} {N : zMe} (hk : k < 185) (h : zM k = some N) : Cond.code N.1 N.2.1 N.2.2.1 N.2.2.2.1 ∈ zTB := by
  by_cases h0 : k < 31
  · exact zCDc0 N (List.mem_of_getElem? (i := k - 0) (by rw [List.getElem?_drop, List.getElem?_take, show 0 + (k - 0) = k by omega, if_pos (by omega)]; exact h))
  by_cases h31 : k < 62
  · exact zCDc31 N (List.mem_of_getElem? (i := k - 31) (by rw [List.getElem?_drop, List.getElem?_take, show 31 + (k - 31) = k by omega, if_pos (by omega)]; exact h))
  by_cases h62 : k < 93
  · exact zCDc62 N (List.mem_of_getElem? (i := k - 62) (by rw [List.getElem?_drop, List.getElem?_take, show 62 + (k - 62) = k by omega, if_pos (by omega)]; exact h))
  by_cases h93 : k < 124
  · exact zCDc93 N (List.mem_of_getElem? (i := k - 93) (by rw [List.getElem?_drop, List.getElem?_take, show 93 + (k - 93) = k by omega, if_pos (by omega)]; exact h))
  by_cases h124 : k < 155
  · exact zCDc124 N (List.mem_of_getElem? (i := k - 124) (by rw [List.getElem?_drop, List.getElem?_take, show 124 + (k - 124) = k by omega, if_pos (by omega)]; exact h))
  by_cases h155 : k < 185
  · exact zCDc155 N (List.mem_of_getElem? (i := k - 155) (by rw [List.getElem?_drop, List.getElem?_take, show 155 + (k - 155) = k by omega, if_pos (by omega)]; exact h))
  exact absurd hk (by omega)
end
section
/-! the world of the interpreter's heap, and the soundness of a run -/
abbrev zG : Type := va_G × ClassId × ClassId × ClassId × ClassId × ClassId × Nat × Nat
abbrev zs (g : zG) : Nat := g.2.2.2.2.2.2.1
abbrev zb (g : zG) : Nat := g.2.2.2.2.2.2.2
def zA (g : zG) : Nat → Prop := fun q => zs g ≤ q
def zv (g : zG) : Value → Value
  | .ref a => .ref (zs g + a)
  | .retAddr _ => .ref (zb g)
  | v => v
def ztys (g : zG) : List (ClassId × FieldType) := [(g.2.1, .int), (g.2.2.1, .byte), (g.2.2.2.1, .boolean), (g.2.2.2.2.1, .object "HarpFences$Stand"), (g.2.2.2.2.2.1, .object "HarpFences$Image")]
def zfv (g : zG) (h : zHp) (c a j : Nat) : Value := match zcl (zTy c j) with
  | 1 => .long (h.2.2.2 a j)
  | 2 => va_rf ((h.2.2.1 a j).map (fun q => zs g + q))
  | _ => .int (h.2.1 a j)
def zqs (g : zG) (h : zHp) (a : Nat) : Nat → Option Nat := fun j => (h.2.2.1 a j).map (fun q => zs g + q)
def zE (g : zG) (h : zHp) (a : Nat) : va_E := match (zK a).1 with
  | 100 => .inl (g.2.1, (zK a).2, .inl (h.2.1 a))
  | 101 => .inl (g.2.2.1, (zK a).2, .inl (h.2.1 a))
  | 102 => .inl (g.2.2.2.1, (zK a).2, .inl (h.2.1 a))
  | 103 => .inl (g.2.2.2.2.1, (zK a).2, .inr (.inr (.inr (.inr (zqs g h a)))))
  | 104 => .inl (g.2.2.2.2.2.1, (zK a).2, .inr (.inr (.inr (.inr (zqs g h a)))))
  | c => .inr (c, (List.range (zK a).2).map (zfv g h c a))
def zW (g : zG) (h : zHp) : va_W := (List.range h.1).map (fun a => (zs g + a, zE g h a))
def zRep (g : zG) (h : zHp) (H : Heap) : Prop := H.size = zs g + h.1 ∧ va_P g.1 zCl (zW g h) H
theorem zKL_ok : zKL.all (fun e => match zCl[e.1]? with
  | some r => r.2.2 == e.2
  | none => true) = true := by decide +kernel
theorem zK_obj {a c : Nat} {r : vw_C} (h : (zK a).1 = c) (hr : zCl[c]? = some r) : r.2.2 = (zK a).2 := by
  have hc : c < 11 := (zCK_of hr).1
  unfold zK at h ⊢
  rw [List.getD_eq_getElem?_getD] at h ⊢
  cases hk : zKL[a]? with
  | none => rw [hk] at h; simp at h; omega
  | some e =>
    rw [hk] at h
    simp only [Option.getD_some] at h ⊢
    have h1 := List.all_eq_true.mp zKL_ok e (List.mem_of_getElem? hk)
    rw [h, hr] at h1
    simpa using h1
theorem zv_rf (g : zG) (r : Option Nat) : zv g (va_rf r) = va_rf (r.map (fun q => zs g + q)) := by cases r <;> rfl
theorem zv_cat (g : zG) (v : Value) : (zv g v).category = v.category := by cases v <;> rfl
theorem zcat_map (g : zG) (st : List Value) : ((st.map (zv g)).map fun v => v.category).sum = zcat st := by
  unfold zcat
  rw [List.map_map]
  congr 1
  apply List.map_congr_left
  intro v _
  exact zv_cat g v
theorem zW_get {g : zG} {h : zHp} {a : Nat} (ha : a < h.1) : (zW g h)[a]? = some (zs g + a, zE g h a) := by
  simp [zW, ha]
theorem zW_none {g : zG} {h : zHp} {a : Nat} (ha : ¬ a < h.1) : (zW g h)[a]? = none := by
  simp [zW]; omega
theorem zW_len {g : zG} {h : zHp} : (zW g h).length = h.1 := by simp [zW]
theorem zW_set {g : zG} {h h' : zHp} {a : Nat} (ha : a < h.1) (hn : h'.1 = h.1) (ho : ∀ q, q ≠ a → zE g h' q = zE g h q) : (zW g h).set a (zs g + a, zE g h' a) = zW g h' := by
  apply List.ext_getElem?
  intro q
  rw [List.getElem?_set]
  by_cases hq : a = q
  · subst hq
    rw [if_pos rfl, zW_len, if_pos ha, zW_get (by omega)]
  · rw [if_neg hq]
    by_cases hl : q < h.1
    · rw [zW_get hl, zW_get (by omega), ho q (Ne.symm hq)]
    · rw [zW_none hl, zW_none (by omega)]
theorem zW_push {g : zG} {h h' : zHp} (hn : h'.1 = h.1 + 1) (ho : ∀ q, q < h.1 → zE g h' q = zE g h q) : zW g h' = zW g h ++ [(zs g + h.1, zE g h' h.1)] := by
  unfold zW
  rw [hn, List.range_succ, List.map_append]
  congr 1
  apply List.map_congr_left
  intro q hq
  rw [ho q (List.mem_range.mp hq)]
theorem zD (g : zG) (h : zHp) : va_D (zA g) (zW g h) := by
  have key : ∀ (i : Nat) (q : Nat × va_E), (zW g h)[i]? = some q → q.1 = zs g + i := by
    intro i q hq
    by_cases hi : i < h.1
    · rw [zW_get hi] at hq
      cases hq
      rfl
    · rw [zW_none hi] at hq
      cases hq
  refine ⟨fun i j p q h1 h2 h3 => ?_, fun i q h1 => ?_⟩
  · have := key i p h1
    have := key j q h2
    omega
  · show zs g ≤ q.1
    rw [key i q h1]
    omega
theorem zE_congr {g : zG} {h h' : zHp} {a : Nat} (h1 : h'.2.1 a = h.2.1 a) (h2 : h'.2.2.1 a = h.2.2.1 a) (h3 : h'.2.2.2 a = h.2.2.2 a) : zE g h' a = zE g h a := by
  have e1 : zqs g h' a = zqs g h a := by unfold zqs; rw [h2]
  have e2 : ∀ c, zfv g h' c a = zfv g h c a := by intro c; funext j; unfold zfv; rw [h1, h2, h3]
  unfold zE
  rw [h1, e1]
  simp only [e2]
theorem zU_ne {α : Type} {f : Nat → Nat → α} {a j q : Nat} {v : α} (hq : q ≠ a) : zU f a j v q = f q := by
  funext t
  simp [zU, hq]
theorem zCr_ne {α : Type} {f : Nat → Nat → α} {a q : Nat} {v : α} (hq : q ≠ a) : zCr f a v q = f q := by
  funext t
  simp [zCr, hq]
theorem zCr_eq {α : Type} {f : Nat → Nat → α} {a : Nat} {v : α} : zCr f a v a = fun _ => v := by
  funext t
  simp [zCr]
theorem zCp_ne {f : Nat → Nat → Int32} {a0 a sp dp n q : Nat} (hq : q ≠ a) : zCp f a0 a sp dp n q = f q := by
  funext t
  simp [zCp, hq]
theorem zCp_eq {f : Nat → Nat → Int32} {a0 a sp dp n : Nat} : zCp f a0 a sp dp n a = va_cpy (f a0) (f a) sp dp n := by
  funext t
  simp [zCp]
theorem zU_upd {f : Nat → Nat → Int32} {a j : Nat} {v : Int32} : zU f a j v a = upd (f a) j v := by
  funext t
  simp [zU, upd]
theorem zset_obj {n j : Nat} {f f' : Nat → Value} {v : Value} (hj : f' j = v) (ho : ∀ t, t ≠ j → f' t = f t) : ((List.range n).map f).set j v = (List.range n).map f' := by
  apply List.ext_getElem?
  intro t
  rw [List.getElem?_set]
  by_cases hq : j = t
  · subst hq
    by_cases hl : j < n
    · simp [hl, hj]
    · simp [hl]
  · rw [if_neg hq]
    by_cases hl : t < n
    · simp [hl, ho t (Ne.symm hq)]
    · simp [hl]
theorem zok_iff {n a c : Nat} : zok n a c = true ↔ a < n ∧ (zK a).1 = c := by simp [zok]
theorem zE_obj {g : zG} {h : zHp} {a c : Nat} (hc : (zK a).1 = c) (h11 : c < 11) : zE g h a = .inr (c, (List.range (zK a).2).map (zfv g h c a)) := by
  unfold zE
  rw [hc]
  match c, h11 with
  | 0, _ => rfl
  | 1, _ => rfl
  | 2, _ => rfl
  | 3, _ => rfl
  | 4, _ => rfl
  | 5, _ => rfl
  | 6, _ => rfl
  | 7, _ => rfl
  | 8, _ => rfl
  | 9, _ => rfl
  | 10, _ => rfl
theorem zE_100 {g : zG} {h : zHp} {a : Nat} (hc : (zK a).1 = 100) : zE g h a = .inl (g.2.1, (zK a).2, .inl (h.2.1 a)) := by unfold zE; rw [hc]; rfl
theorem zE_101 {g : zG} {h : zHp} {a : Nat} (hc : (zK a).1 = 101) : zE g h a = .inl (g.2.2.1, (zK a).2, .inl (h.2.1 a)) := by unfold zE; rw [hc]; rfl
theorem zE_102 {g : zG} {h : zHp} {a : Nat} (hc : (zK a).1 = 102) : zE g h a = .inl (g.2.2.2.1, (zK a).2, .inl (h.2.1 a)) := by unfold zE; rw [hc]; rfl
theorem zE_103 {g : zG} {h : zHp} {a : Nat} (hc : (zK a).1 = 103) : zE g h a = .inl (g.2.2.2.2.1, (zK a).2, .inr (.inr (.inr (.inr (zqs g h a))))) := by unfold zE; rw [hc]; rfl
theorem zE_104 {g : zG} {h : zHp} {a : Nat} (hc : (zK a).1 = 104) : zE g h a = .inl (g.2.2.2.2.2.1, (zK a).2, .inr (.inr (.inr (.inr (zqs g h a))))) := by unfold zE; rw [hc]; rfl
def zSL (n : Nat) : Nat := ((zKL.take n).map (fun e => e.2)).sum
theorem zSL_succ (n : Nat) : zSL (n + 1) = zSL n + (zK n).2 := by
  unfold zSL zK
  rw [List.take_add_one, List.map_append, List.sum_append, List.getD_eq_getElem?_getD]
  cases zKL[n]? <;> simp
theorem zSL_mono {n m : Nat} (h : n ≤ m) : zSL n ≤ zSL m := by
  induction h with
  | refl => exact Nat.le_refl _
  | step _ ih => rw [zSL_succ]; omega
/-- the words on nest mates and on arrays of objects -/
def zNw (U : State) : Prop := (∀ w ∈ zNest, va_Nw w U) ∧ va_AO "HarpFences$Stand" U ∧ va_AO "HarpFences$Image" U
theorem zNw_warm {s U : State} (hW : s.WarmedH U.vm) (h : zNw s) : zNw U := by
  refine ⟨fun w hw => ?_, h.2.1.moved hW.alike, h.2.2.moved hW.alike⟩
  have h1 := h.1 w hw
  have h2 := (List.mem_filter.mp hw).2
  cases w <;> first | exact va_Nw.warmM hW h1 | cases h2
theorem zNw_vm {s U : State} (hvm : s.vm = U.vm) (h : zNw s) : zNw U := by
  refine ⟨fun w hw => ?_, va_AO.moved (by rw [hvm]; exact Vm.Alike.refl _) h.2.1, va_AO.moved (by rw [hvm]; exact Vm.Alike.refl _) h.2.2⟩
  have h1 := h.1 w hw
  have h2 := (List.mem_filter.mp hw).2
  cases w <;> first | exact va_tabs rfl hvm h1 | cases h2
def zLs (g : zG) (nL k : Nat) (ls : List (Option Value)) (la : Array Slot) : Prop := la.size = nL ∧ lv_wf la ∧ (∀ (j : Nat) (v : Value), ls[j]? = some (some v) → la[j]? = some (.val (zv g v))) ∧ (∀ (j : Nat) (v : Value), ls[j]? = some (some v) → v.category = 2 → j = zLA k) ∧ ls.length ≤ nL
theorem zLs_has {g : zG} {nL k : Nat} {ls : List (Option Value)} {la : Array Slot} (h : zLs g nL k ls la) : lv_has la nL (((List.range ls.length).filterMap (fun j => (ls[j]?).join.map (fun v => (j, zv g v))))) := by
  refine ⟨h.1, h.2.1, fun q hq => ?_⟩
  obtain ⟨j, -, hj⟩ := List.mem_filterMap.mp hq
  obtain ⟨v, hv, rfl⟩ := Option.map_eq_some_iff.mp hj
  exact h.2.2.1 j v (Option.join_eq_some_iff.mp hv)
theorem zLs_mem {g : zG} {ls : List (Option Value)} {j : Nat} {v : Value} (h : ls[j]? = some (some v)) : (j, zv g v) ∈ ((List.range ls.length).filterMap (fun j => (ls[j]?).join.map (fun v => (j, zv g v)))) := by
  refine List.mem_filterMap.mpr ⟨j, List.mem_range.mpr (List.getElem?_eq_some_iff.mp h).1, ?_⟩
  rw [h]
  rfl
/-- the locals behind a store of an int or a reference -/
theorem zLs_set {g : zG} {nL k : Nat} {ls ls' : List (Option Value)} {la la' : Array Slot} {j : Nat} {v : Value} (h : zLs g nL k ls la) (hs : zset k ls j v = some ls') (hv : v.category = 1)
    (ha : lv_has la' nL ((j, zv g v) :: ((List.range ls.length).filterMap (fun j => (ls[j]?).join.map (fun v => (j, zv g v)))).filter (fun q => !(q.1 == j) && !(q.1 + 1 == j && q.2.category == 2)))) : zLs g nL k ls' la' := by
  unfold zset at hs
  split at hs
  · cases hs
  · rename_i hj
    cases hs
    refine ⟨ha.1, ha.2.1, fun i w hi => ?_, fun i w hi hw => ?_, by rw [List.length_set]; exact h.2.2.2.2⟩
    · rw [List.getElem?_set] at hi
      by_cases hij : j = i
      · subst hij
        rw [if_pos rfl] at hi
        split at hi
        · cases hi
          exact ha.2.2 (j, zv g v) List.mem_cons_self
        · cases hi
      · rw [if_neg hij] at hi
        refine ha.2.2 (i, zv g w) (List.mem_cons_of_mem _ (List.mem_filter.mpr ⟨zLs_mem hi, ?_⟩))
        have h1 : (i == j) = false := by simp; omega
        by_cases h2 : w.category = 2
        · have h3 := h.2.2.2.1 i w hi h2
          have h4 : (i + 1 == j) = false := by simp; omega
          simp [h1, h4]
        · simp [h1, zv_cat, h2]
    · rw [List.getElem?_set] at hi
      by_cases hij : j = i
      · subst hij
        rw [if_pos rfl] at hi
        split at hi
        · cases hi
          omega
        · cases hi
      · rw [if_neg hij] at hi
        exact h.2.2.2.1 i w hi hw
theorem zset_lt {k j : Nat} {ls ls' : List (Option Value)} {v : Value} (hs : zset k ls j v = some ls') : j < ls.length := by
  unfold zset at hs
  split at hs
  · cases hs
  · omega
/-- the locals behind a store of a long -/
theorem zLs_set2 {g : zG} {nL k : Nat} {ls : List (Option Value)} {la la' : Array Slot} {j : Nat} {x : Int64} (h : zLs g nL k ls la) (hj : j = zLA k)
    (ha : lv_has la' nL ((j, Value.long x) :: ((List.range ls.length).filterMap (fun j => (ls[j]?).join.map (fun v => (j, zv g v)))).filter (fun q => !(q.1 == j) && (!(q.1 == j + 1) && !(q.1 + 1 == j && q.2.category == 2))))) : zLs g nL k ((ls.set j (some (.long x))).set (j + 1) none) la' := by
  have key : ∀ (i : Nat) (w : Value), ((ls.set j (some (.long x))).set (j + 1) none)[i]? = some (some w) → (i = j ∧ w = .long x) ∨ (i ≠ j ∧ i ≠ j + 1 ∧ ls[i]? = some (some w)) := by
    intro i w hi
    rw [List.getElem?_set] at hi
    by_cases h1 : j + 1 = i
    · rw [if_pos h1] at hi
      split at hi <;> cases hi
    · rw [if_neg h1, List.getElem?_set] at hi
      by_cases h2 : j = i
      · rw [if_pos h2] at hi
        split at hi
        · cases hi
          exact Or.inl ⟨h2.symm, rfl⟩
        · cases hi
      · rw [if_neg h2] at hi
        exact Or.inr ⟨fun e => h2 e.symm, fun e => h1 e.symm, hi⟩
  refine ⟨ha.1, ha.2.1, fun i w hi => ?_, fun i w hi hw => ?_, by rw [List.length_set, List.length_set]; exact h.2.2.2.2⟩
  · rcases key i w hi with ⟨rfl, rfl⟩ | ⟨h1, h2, h3⟩
    · exact ha.2.2 _ List.mem_cons_self
    · refine ha.2.2 (i, zv g w) (List.mem_cons_of_mem _ (List.mem_filter.mpr ⟨zLs_mem h3, ?_⟩))
      have e1 : (i == j) = false := by simp; omega
      have e2 : (i == j + 1) = false := by simp; omega
      by_cases h4 : w.category = 2
      · have h5 := h.2.2.2.1 i w h3 h4
        omega
      · simp [e1, e2, zv_cat, h4]
  · rcases key i w hi with ⟨rfl, rfl⟩ | ⟨h1, h2, h3⟩
    · exact hj
    · exact h.2.2.2.1 i w h3 hw
theorem zlg_sl {g : zG} {as : List Value} (h : zcat1 as = true) : (lg_sl (as.map (zv g))).length = as.length := by
  induction as with
  | nil => rfl
  | cons v l ih =>
    simp only [zcat1, List.all_cons, Bool.and_eq_true, beq_iff_eq] at h
    have h1 : (zv g v).category = 1 := (zv_cat g v).trans h.1
    have h2 := ih h.2
    rw [List.map_cons]
    simp only [lg_sl, List.flatMap_cons, List.length_append] at h2 ⊢
    rw [h2]
    simp [h1]
    omega
theorem zlv_args {g : zG} {as : List Value} (h : zcat1 as = true) : ∀ (i j : Nat) (v : Value), as[j]? = some v → (i + j, zv g v) ∈ lv_args i (as.map (zv g)) := by
  induction as with
  | nil => intro i j v hj; simp at hj
  | cons w l ih =>
    simp only [zcat1, List.all_cons, Bool.and_eq_true, beq_iff_eq] at h
    have h1 : (zv g w).category = 1 := (zv_cat g w).trans h.1
    intro i j v hj
    rw [List.map_cons]
    simp only [lv_args, h1]
    cases j with
    | zero =>
      simp at hj
      subst hj
      exact List.mem_cons_self
    | succ j =>
      simp at hj
      have h2 := ih h.2 (i + 1) j v hj
      rw [show i + 1 + j = i + (j + 1) by omega] at h2
      exact List.mem_cons_of_mem _ (by simpa using h2)
theorem zLs_ent {g : zG} {k n : Nat} {as : List Value} (h : zcat1 as = true) (hl : as.length ≤ n) : zLs g n k (zent as n) ((lg_sl (as.map (zv g)) ++ List.replicate (n - (lg_sl (as.map (zv g))).length) Slot.unset).toArray) := by
  have h0 := lv_entry (as.map (zv g)) (n := n) (by rw [zlg_sl h]; exact hl)
  have key : ∀ (j : Nat) (v : Value), (zent as n)[j]? = some (some v) → as[j]? = some v := by
    intro j v hj
    unfold zent at hj
    by_cases hjl : j < as.length
    · rw [List.getElem?_append_left (by rw [List.length_map]; exact hjl), List.getElem?_map] at hj
      obtain ⟨w, hw, e⟩ := Option.map_eq_some_iff.mp hj
      cases e
      exact hw
    · rw [List.getElem?_append_right (by rw [List.length_map]; omega)] at hj
      have := List.eq_of_mem_replicate (List.mem_of_getElem? hj)
      cases this
  refine ⟨h0.1, h0.2.1, fun j v hj => ?_, fun j v hj hv => ?_, ?_⟩
  · have h2 := zlv_args (g := g) h 0 j v (key j v hj)
    rw [Nat.zero_add] at h2
    exact h0.2.2 _ h2
  · have h3 := List.all_eq_true.mp h v (List.mem_of_getElem? (key j v hj))
    simp only [beq_iff_eq] at h3
    omega
  · unfold zent
    rw [List.length_append, List.length_map, List.length_replicate]
    omega
end
section
/-! a run of the interpreter is a run of the machine -/
/-- the cells grow -/
theorem zins_n {rec : zSt → Option zRs} (hrec : ∀ s y, rec s = some y → s.2.2.2.2.1 ≤ y.2.1) {sc : zScr} {k : Nat} {M : zMe} {pc : Nat} {ls : List (Option Value)} {st : List Value} {h : zHp} {ins : Instr} {x : zRs} (hr : zstp rec (zins sc k M pc ls st h ins) = some x) : h.1 ≤ x.2.1 := by
  have go : ∀ (pc' : Nat) (ls' : List (Option Value)) (st' : List Value) (h' : zHp), h.1 ≤ h'.1 → zstp rec (zgo k pc' ls' st' h') = some x → h.1 ≤ x.2.1 := fun pc' ls' st' h' hl e => Nat.le_trans hl (hrec _ _ e)
  have go2 : ∀ (pc' : Nat) (ls' : List (Option Value)) (st' : List Value) (i' : Nat → Nat → Int32) (r' : Nat → Nat → Option Nat) (l' : Nat → Nat → Int64), zstp rec (zgo k pc' ls' st' (h.1, i', r', l')) = some x → h.1 ≤ x.2.1 := fun pc' ls' st' i' r' l' e => go pc' ls' st' (h.1, i', r', l') (Nat.le_refl h.1) e
  have go3 : ∀ (pc' : Nat) (ls' : List (Option Value)) (st' : List Value) (i' : Nat → Nat → Int32) (r' : Nat → Nat → Option Nat) (l' : Nat → Nat → Int64), zstp rec (zgo k pc' ls' st' (h.1 + 1, i', r', l')) = some x → h.1 ≤ x.2.1 := fun pc' ls' st' i' r' l' e => go pc' ls' st' (h.1 + 1, i', r', l') (Nat.le_succ h.1) e
  have jp : ∀ (t : Option Nat) (st' : List Value), zstp rec (zjp k t ls st' h) = some x → h.1 ≤ x.2.1 := by
    intro t st' e
    cases t with
    | none => cases e
    | some t => exact go _ _ _ _ (Nat.le_refl _) e
  have cl : ∀ (as rest : List Value) (k' : Nat), zstp rec (zcall k M pc ls as rest h k') = some x → h.1 ≤ x.2.1 := by
    intro as rest k' e
    unfold zcall at e
    split at e
    · cases e
    · split at e
      · simp only [zstp] at e
        obtain ⟨y, h1, h2⟩ := Option.bind_eq_some_iff.mp e
        exact Nat.le_trans (hrec _ _ h1) (hrec _ _ h2)
      · cases e
  have nn : zstp rec none = some x → h.1 ≤ x.2.1 := fun e => by cases e
  cases ins <;> simp only [zins] at hr <;> first | (exact nn hr; done) | ((repeat' split at hr) <;> first | exact nn hr | exact go _ _ _ h (Nat.le_refl _) hr | exact go2 _ _ _ _ _ _ hr | exact go3 _ _ _ _ _ _ hr | exact jp _ _ hr | exact cl _ _ _ hr | (simp only [zstp, Option.some.injEq] at hr; subst hr; exact Nat.le_refl _))
theorem zrun_n (sc : zScr) : ∀ (n : Nat) (s : zSt) (x : zRs), zrun sc n s = some x → s.2.2.2.2.1 ≤ x.2.1
  | 0, _, _, h => by cases h
  | n + 1, s, x, h => by
    have h : zstp (zrun sc n) (zact sc s) = some x := h
    unfold zact at h
    split at h
    · cases h
    · split at h
      · cases h
      · split at h
        · exact zins_n (zrun_n sc n) h
        · cases h
/-- what a method's contract says -/
def zws (N : zMe) : List Cond := Cond.code N.1 N.2.1 N.2.2.1 N.2.2.2.1 :: zTB
def zrm (N : zMe) (mc ms : Nat) : Room := { frames := N.2.2.2.2.2.1, cells := mc, slots := ms, locals := N.2.2.2.2.2.2 }
def zPc (g : zG) (sc : zScr) (as : List Value) (h : zHp) : Array Value → State → Prop := va_Pc (as.map (zv g)) (fun U => zRep g h U.heap ∧ va_K g.1 zCl (ztys g) U ∧ zNw U ∧ va_X (zb g) sc.1 sc.2 U U.heap ∧ zb g < zs g)
def zB (g : zG) (h : zHp) (_ : Unit) (t : State) : Prop := zRep g h t.heap
def zQc (g : zG) (x : zRs) : Array Value → State → Outcome → State → Prop := fun a st o t => match x.1 with
  | .int v => va_Qi (fun r (_ : Unit) => r = v) (zB g x.2) (zA g) a st o t
  | .long v => va_Ql (fun r (_ : Unit) => r = v) (zB g x.2) (zA g) a st o t
  | _ => va_Qv (fun (_ : Unit) => True) (zB g x.2) (zA g) a st o t
def zRet (M : zMe) (pc : Nat) (v : Value) : Prop := (∃ r, v = .int r ∧ decode M.2.1 pc = .ok (.ireturn, 1) ∧ (M.2.2.2.1 = some .int ∨ (M.2.2.2.1 = some .boolean ∧ (r = 0 ∨ r = 1)))) ∨ (∃ r, v = .long r ∧ decode M.2.1 pc = .ok (.lreturn, 1) ∧ M.2.2.2.1 = some .long) ∨ (v = .null ∧ decode M.2.1 pc = .ok (.return_, 1) ∧ M.2.2.2.1 = none)
def zrst (v : Value) : List Value := match v with
  | .null => []
  | v => [v]
def zCx (M : zMe) (g : zG) (sc : zScr) (p : Program) (R : Room) (sS : State) (m : MethodId) (args : Array Value) (meth : Method) (c : Code) : Prop :=
  p.tables.exec = Jvm.exec ∧ c.code = M.2.1 ∧ c.maxLocals = M.2.2.1 ∧ sS.vm.findClass (zRN M.2.2.2.2.1) = some m.cls ∧ (∀ w ∈ zTB, w.before args sS = true) ∧ va_K g.1 zCl (ztys g) sS ∧ zNw sS ∧ (va_X (zb g) sc.1 sc.2 sS sS.heap ∧ zb g < zs g) ∧ zs g ≤ sS.heap.size ∧ (M.1.name = "<init>" → meth.name = "<init>") ∧ M.2.2.2.2.2.1 ≤ R.frames ∧ M.2.2.2.2.2.2 ≤ R.locals
def zSnd (l0 : Launch) (sc : zScr) (s : zSt) (x : zRs) : Prop :=
  ∀ (M : zMe) (g : zG) {p : Program} {e : Env} {R : Room} {sS : State} {m : MethodId} {args : Array Value} {below : List Frame} {meth : Method} {c : Code} (H : Heap) (locs : List Loc) (cells slots : Nat) (Q : State → Prop) (la : Array Slot),
    zM s.1 = some M → zCx M g sc p R sS m args meth c → zRep g s.2.2.2.2 H → va_S (zA g) sS.heap H locs → zLs g M.2.2.1 s.1 s.2.2.1 la →
    zs g + s.2.2.2.2.1 = sS.heap.size + cells → cells + (x.2.1 - s.2.2.2.2.1) ≤ R.cells → slots + (zSL x.2.1 - zSL s.2.2.2.2.1) ≤ R.slots →
    (∀ (pcR : Nat) (lsR : Array Slot) (H' : Heap) (locs' : List Loc), zRet M pcR x.1 → zRep g x.2 H' → va_S (zA g) sS.heap H' locs' → W p l0 e R sS m args below meth c H' locs' (cells + (x.2.1 - s.2.2.2.2.1)) (slots + (zSL x.2.1 - zSL s.2.2.2.2.1)) Q (F0 m pcR lsR (zrst x.1))) →
    W p l0 e R sS m args below meth c H locs cells slots Q (F0 m s.2.1 la (s.2.2.2.1.map (zv g)))
set_option maxHeartbeats 4000000 in
/-- the contract of a method out of the soundness of its runs -/
theorem zmet {l0 : Launch} {sc : zScr} {k : Nat} {N : zMe} {as : List Value} {h : zHp} {x : zRs} (g : zG) (hk : k < 185) (hM : zM k = some N) (hp : plainName N.1.cls = true) (hcls : N.1.cls = zRN N.2.2.2.2.1) (hc : zcat1 as = true) (hl : as.length ≤ N.2.2.1) (hS : zSnd l0 sc (k, 0, zent as N.2.2.1, [], h) x) :
    Met l0 N.1 (zws N) (zrm N (x.2.1 - h.1) (zSL x.2.1 - zSL h.1)) (zPc g sc as h) (zQc g x) (x.2.1 - h.1) (zSL x.2.1 - zSL h.1) (zA g) := by
  refine Met.ofW (cc := N.2.1) (maxL := N.2.2.1) (ret := N.2.2.2.1) hp rfl ?_
  intro p e s m args below meth c s₁ B hml hv
  obtain ⟨rfl, hRep, hK, hN, hX, hbs⟩ := hv
  have hx := B.exec
  have hb := B.bytes
  have hr := B.returns
  have hts0 := atoms_spec (ws := zws N) B.pre
  have hts : ∀ w ∈ zTB, w.before (as.map (zv g)).toArray s = true := fun w hw => hts0 w (List.mem_cons_of_mem _ hw)
  have hown : s.vm.findClass N.1.cls = some m.cls := findClass_of_methodNamed B.named
  rw [hcls] at hown
  have hlocks := B.notSynchronized
  have hin : meth.name = N.1.name := (name_of_methodNamed B.named B.method).1
  have hsz : zs g ≤ s.heap.size := by rw [hRep.1]; omega
  rw [lg_entry_eq]
  have hL := zLs_ent (g := g) (k := k) hc hl
  refine hS N g s.heap [] 0 0 _ _ hM ⟨hx, hb, hml, hown, hts, hK, hN, ⟨hX, hbs⟩, hsz, fun q => hin.trans q, Nat.le_refl _, Nat.le_refl _⟩ hRep va_S.rf hL (by rw [hRep.1]; rfl) (by rw [Nat.zero_add]; exact Nat.le_refl _) (by rw [Nat.zero_add]; exact Nat.le_refl _) ?_
  intro pcR lsR H' locs' hret hR' hS'
  refine W.cs (Nat.zero_add _) (Nat.zero_add _) ?_
  obtain ⟨v, h1⟩ := x
  dsimp only at hret hR' ⊢
  rcases hret with ⟨r, rfl, hd, hty | ⟨hty, hrb⟩⟩ | ⟨r, rfl, hd, hty⟩ | ⟨rfl, hd, hty⟩
  · exact W.iret (v := r) hx hb (hr.trans hty) (fun t ht hW => ⟨⟨r, (), rfl, rfl, by show zRep g _ t.heap; rw [ht]; exact hR'⟩, hS'.F ht⟩) hS'.2.2 hd
  · exact W.zret (v := r) (ty := .boolean) hx hb (hr.trans hty) (by rcases hrb with rfl | rfl <;> rfl) (fun t ht hW => ⟨⟨r, (), rfl, rfl, by show zRep g _ t.heap; rw [ht]; exact hR'⟩, hS'.F ht⟩) hS'.2.2 hd
  · exact W.lret (v := r) hx hb (hr.trans hty) (fun t ht hW => ⟨⟨r, (), rfl, rfl, by show zRep g _ t.heap; rw [ht]; exact hR'⟩, hS'.F ht⟩) hS'.2.2 hd
  · exact W.vret hx hb (hr.trans hty) (fun t ht hW => ⟨⟨(), rfl, trivial, by show zRep g _ t.heap; rw [ht]; exact hR'⟩, hS'.F ht⟩) hS'.2.2 hd
theorem zgoodIn {N : zMe} (h : Cond.code N.1 N.2.1 N.2.2.1 N.2.2.2.1 ∈ zTB) : GoodIn zTB (zws N) := by
  intro w hw
  rcases List.mem_cons.mp hw with rfl | hw
  · exact ⟨h, Or.inl rfl⟩
  · exact ⟨hw, good_of_word (zgood w hw)⟩
/-- what is known of a method that is called -/
theorem zMN_spec {k na : Nat} (h : zMNok k na = true) : ∃ (N : zMe) (P : Nat × Nat × Nat × Nat × Nat), zM k = some N ∧ zMP[k]? = some P ∧ k < 185 ∧ Cond.initialized N.1.cls ∈ zTB ∧ plainName N.1.cls = true ∧ (N.1.cls ≠ "java/lang/invoke/MethodHandle" ∧ N.1.cls ≠ "java/lang/invoke/VarHandle") ∧ (parseMethodDescriptor N.1.desc).map (fun d => d.parameters.length) = some na ∧ N.1.cls = zRN N.2.2.2.2.1 := by
  unfold zMNok at h
  split at h
  · rename_i N P hN hP
    simp only [Bool.and_eq_true, decide_eq_true_eq] at h
    exact ⟨N, P, hN, hP, h.1, zinT_mem h.2.1, h.2.2.1, h.2.2.2.1, h.2.2.2.2.1, h.2.2.2.2.2⟩
  · cases h
theorem zcases {x : zRs} {M : zMe} {pc : Nat} (h : zRet M pc x.1) : (∃ r, x.1 = .int r ∧ M.2.2.2.1 ≠ none) ∨ (∃ r, x.1 = .long r ∧ M.2.2.2.1 ≠ none) ∨ (x.1 = .null ∧ M.2.2.2.1 = none) := by
  rcases h with ⟨r, h1, -, h2 | ⟨h2, -⟩⟩ | ⟨r, h1, -, h2⟩ | ⟨h1, -, h2⟩
  · exact Or.inl ⟨r, h1, by rw [h2]; exact fun h => by cases h⟩
  · exact Or.inl ⟨r, h1, by rw [h2]; exact fun h => by cases h⟩
  · exact Or.inr (Or.inl ⟨r, h1, by rw [h2]; exact fun h => by cases h⟩)
  · exact Or.inr (Or.inr ⟨h1, h2⟩)
/-- the kind of what a method answers -/
def zRk (N : zMe) (v : Value) : Prop := (∃ r, v = .int r ∧ N.2.2.2.1 ≠ none) ∨ (∃ r, v = .long r ∧ N.2.2.2.1 ≠ none) ∨ (v = .null ∧ N.2.2.2.1 = none)
theorem zrun_k (sc : zScr) : ∀ (n : Nat) (s : zSt) (x : zRs) (N : zMe), zrun sc n s = some x → zM s.1 = some N → zRk N x.1
  | 0, _, _, _, h, _ => by cases h
  | n + 1, s, x, N, h, hN => by
    have h : zstp (zrun sc n) (zact sc s) = some x := h
    unfold zact at h
    rw [hN] at h
    dsimp only at h
    split at h
    · cases h
    rename_i y hd
    by_cases hlen : y.2 = zlen y.1 y.2
    case neg => rw [if_neg hlen] at h; cases h
    rw [if_pos hlen] at h
    have go : ∀ (pc' : Nat) (ls' : List (Option Value)) (st' : List Value) (h' : zHp), zstp (zrun sc n) (zgo s.1 pc' ls' st' h') = some x → zRk N x.1 := fun pc' ls' st' h' e => zrun_k sc n _ x N e hN
    have jp : ∀ (t : Option Nat) (ls : List (Option Value)) (st' : List Value) (h' : zHp), zstp (zrun sc n) (zjp s.1 t ls st' h') = some x → zRk N x.1 := by
      intro t ls st' h' e
      cases t with
      | none => cases e
      | some t => exact go _ _ _ _ e
    have cl : ∀ (pc : Nat) (ls : List (Option Value)) (as rest : List Value) (h' : zHp) (k' : Nat), zstp (zrun sc n) (zcall s.1 N pc ls as rest h' k') = some x → zRk N x.1 := by
      intro pc ls as rest h' k' e
      unfold zcall at e
      split at e
      · cases e
      · split at e
        · simp only [zstp] at e
          obtain ⟨y, h1, h2⟩ := Option.bind_eq_some_iff.mp e
          exact zrun_k sc n _ x N h2 hN
        · cases e
    have nn : zstp (zrun sc n) none = some x → zRk N x.1 := fun e => by cases e
    generalize y.1 = ins at h
    cases ins <;> simp only [zins] at h <;> first
      | (exact nn h; done)
      | ((repeat' split at h) <;> first | exact nn h | exact go _ _ _ _ h | exact jp _ _ _ _ h | exact cl _ _ _ _ _ _ h | (rename_i hty; simp only [zstp, Option.some.injEq] at h; subst h; rcases hty with hty | ⟨hty, -⟩ <;> exact Or.inl ⟨_, rfl, by rw [hty]; exact fun h => by cases h⟩) | (rename_i hty; simp only [zstp, Option.some.injEq] at h; subst h; exact Or.inr (Or.inl ⟨_, rfl, by rw [hty]; exact fun h => by cases h⟩)) | (rename_i hty; simp only [zstp, Option.some.injEq] at h; subst h; exact Or.inr (Or.inr ⟨rfl, hty⟩)))
end
section
/-! the calls' words, by the kind of the call -/
def zNS (N : zMe) (k na : Nat) : Prop := zM k = some N ∧ k < 185 ∧ Cond.code N.1 N.2.1 N.2.2.1 N.2.2.2.1 ∈ zTB ∧ Cond.initialized N.1.cls ∈ zTB ∧ plainName N.1.cls = true ∧ (N.1.cls ≠ "java/lang/invoke/MethodHandle" ∧ N.1.cls ≠ "java/lang/invoke/VarHandle") ∧ (parseMethodDescriptor N.1.desc).map (fun d => d.parameters.length) = some na ∧ N.1.cls = zRN N.2.2.2.2.1
theorem zM0 {o i k na : Nat} (h : zMr o i = some (k, 0, na)) : ∃ N, zNS N k na ∧ Cond.methodLink (zRN o) i N.1 ∈ zTB ∧ Cond.instanceMethod N.1 ∈ zTB ∧ Cond.selects N.1.cls N.1 N.1 ∈ zTB ∧ N.2.2.2.2.1 < 11 := by
  obtain ⟨q, hq⟩ := zMr_spec h
  have hq : (zMNok k na && (match zM k, zMP[k]?, 0 with
    | some N, some P, 0 => zinT q (.methodLink (zRN o) i N.1) && (zinT P.2.1 (.instanceMethod N.1) && (zinT P.2.2.2.1 (.selects N.1.cls N.1 N.1) && decide (N.2.2.2.2.1 < 11)))
    | some N, some P, 1 => zinT q (.methodLink (zRN o) i N.1) && zinT P.2.2.1 (.static N.1)
    | some N, some P, 2 => zinT q (.methodLink (zRN o) i N.1) && (zinT P.2.1 (.instanceMethod N.1) && (decide (N.1.name = "<init>") && decide (N.2.2.2.1 = none)))
    | some N, some P, 3 => zinN q (.methodLinkNest (zRN o) i N.1 "HarpFences") && (zinT P.2.1 (.instanceMethod N.1) && (decide (N.1.name = "<init>") && decide (N.2.2.2.1 = none)))
    | _, _, _ => false)) = true := hq
  rw [Bool.and_eq_true] at hq
  obtain ⟨N, P, hN, hP, h1, h2, h3, h4, h5, h6⟩ := zMN_spec hq.1
  have h7 := hq.2
  rw [hN, hP] at h7
  simp only [Bool.and_eq_true, decide_eq_true_eq] at h7
  exact ⟨N, ⟨hN, h1, zCD_of h1 hN, h2, h3, h4, h5, h6⟩, zinT_mem h7.1, zinT_mem h7.2.1, zinT_mem h7.2.2.1, h7.2.2.2⟩
theorem zM1 {o i k na : Nat} (h : zMr o i = some (k, 1, na)) : ∃ N, zNS N k na ∧ Cond.methodLink (zRN o) i N.1 ∈ zTB ∧ Cond.static N.1 ∈ zTB := by
  obtain ⟨q, hq⟩ := zMr_spec h
  have hq : (zMNok k na && (match zM k, zMP[k]?, 1 with
    | some N, some P, 0 => zinT q (.methodLink (zRN o) i N.1) && (zinT P.2.1 (.instanceMethod N.1) && (zinT P.2.2.2.1 (.selects N.1.cls N.1 N.1) && decide (N.2.2.2.2.1 < 11)))
    | some N, some P, 1 => zinT q (.methodLink (zRN o) i N.1) && zinT P.2.2.1 (.static N.1)
    | some N, some P, 2 => zinT q (.methodLink (zRN o) i N.1) && (zinT P.2.1 (.instanceMethod N.1) && (decide (N.1.name = "<init>") && decide (N.2.2.2.1 = none)))
    | some N, some P, 3 => zinN q (.methodLinkNest (zRN o) i N.1 "HarpFences") && (zinT P.2.1 (.instanceMethod N.1) && (decide (N.1.name = "<init>") && decide (N.2.2.2.1 = none)))
    | _, _, _ => false)) = true := hq
  rw [Bool.and_eq_true] at hq
  obtain ⟨N, P, hN, hP, h1, h2, h3, h4, h5, h6⟩ := zMN_spec hq.1
  have h7 := hq.2
  rw [hN, hP] at h7
  simp only [Bool.and_eq_true] at h7
  exact ⟨N, ⟨hN, h1, zCD_of h1 hN, h2, h3, h4, h5, h6⟩, zinT_mem h7.1, zinT_mem h7.2⟩
theorem zM2 {o i k na : Nat} (h : zMr o i = some (k, 2, na)) : ∃ N, zNS N k na ∧ Cond.methodLink (zRN o) i N.1 ∈ zTB ∧ Cond.instanceMethod N.1 ∈ zTB ∧ N.1.name = "<init>" ∧ N.2.2.2.1 = none := by
  obtain ⟨q, hq⟩ := zMr_spec h
  have hq : (zMNok k na && (match zM k, zMP[k]?, 2 with
    | some N, some P, 0 => zinT q (.methodLink (zRN o) i N.1) && (zinT P.2.1 (.instanceMethod N.1) && (zinT P.2.2.2.1 (.selects N.1.cls N.1 N.1) && decide (N.2.2.2.2.1 < 11)))
    | some N, some P, 1 => zinT q (.methodLink (zRN o) i N.1) && zinT P.2.2.1 (.static N.1)
    | some N, some P, 2 => zinT q (.methodLink (zRN o) i N.1) && (zinT P.2.1 (.instanceMethod N.1) && (decide (N.1.name = "<init>") && decide (N.2.2.2.1 = none)))
    | some N, some P, 3 => zinN q (.methodLinkNest (zRN o) i N.1 "HarpFences") && (zinT P.2.1 (.instanceMethod N.1) && (decide (N.1.name = "<init>") && decide (N.2.2.2.1 = none)))
    | _, _, _ => false)) = true := hq
  rw [Bool.and_eq_true] at hq
  obtain ⟨N, P, hN, hP, h1, h2, h3, h4, h5, h6⟩ := zMN_spec hq.1
  have h7 := hq.2
  rw [hN, hP] at h7
  simp only [Bool.and_eq_true, decide_eq_true_eq] at h7
  exact ⟨N, ⟨hN, h1, zCD_of h1 hN, h2, h3, h4, h5, h6⟩, zinT_mem h7.1, zinT_mem h7.2.1, h7.2.2.1, h7.2.2.2⟩
theorem zM3 {o i k na : Nat} (h : zMr o i = some (k, 3, na)) : ∃ N, zNS N k na ∧ Cond.methodLinkNest (zRN o) i N.1 "HarpFences" ∈ zNest ∧ Cond.instanceMethod N.1 ∈ zTB ∧ N.1.name = "<init>" ∧ N.2.2.2.1 = none := by
  obtain ⟨q, hq⟩ := zMr_spec h
  have hq : (zMNok k na && (match zM k, zMP[k]?, 3 with
    | some N, some P, 0 => zinT q (.methodLink (zRN o) i N.1) && (zinT P.2.1 (.instanceMethod N.1) && (zinT P.2.2.2.1 (.selects N.1.cls N.1 N.1) && decide (N.2.2.2.2.1 < 11)))
    | some N, some P, 1 => zinT q (.methodLink (zRN o) i N.1) && zinT P.2.2.1 (.static N.1)
    | some N, some P, 2 => zinT q (.methodLink (zRN o) i N.1) && (zinT P.2.1 (.instanceMethod N.1) && (decide (N.1.name = "<init>") && decide (N.2.2.2.1 = none)))
    | some N, some P, 3 => zinN q (.methodLinkNest (zRN o) i N.1 "HarpFences") && (zinT P.2.1 (.instanceMethod N.1) && (decide (N.1.name = "<init>") && decide (N.2.2.2.1 = none)))
    | _, _, _ => false)) = true := hq
  rw [Bool.and_eq_true] at hq
  obtain ⟨N, P, hN, hP, h1, h2, h3, h4, h5, h6⟩ := zMN_spec hq.1
  have h7 := hq.2
  rw [hN, hP] at h7
  simp only [Bool.and_eq_true, decide_eq_true_eq] at h7
  exact ⟨N, ⟨hN, h1, zCD_of h1 hN, h2, h3, h4, h5, h6⟩, zinN_mem h7.1, zinT_mem h7.2.1, h7.2.2.1, h7.2.2.2⟩
theorem zMk {o i k kd na : Nat} {w : Cond} (h : zMr o i = some (k, kd, na)) (hw : ∀ q, zMok (o, i, k, kd, na, q) = true → zinT q w = true) : w ∈ zTB := by
  obtain ⟨q, hq⟩ := zMr_spec h
  exact zinT_mem (hw q hq)
theorem zCl_nm {ci : Nat} (h : ci < 11) : ∃ r, zCl[ci]? = some r ∧ r.1 = zRN ci := by
  match ci, h with
  | 0, _ => exact ⟨_, rfl, rfl⟩
  | 1, _ => exact ⟨_, rfl, rfl⟩
  | 2, _ => exact ⟨_, rfl, rfl⟩
  | 3, _ => exact ⟨_, rfl, rfl⟩
  | 4, _ => exact ⟨_, rfl, rfl⟩
  | 5, _ => exact ⟨_, rfl, rfl⟩
  | 6, _ => exact ⟨_, rfl, rfl⟩
  | 7, _ => exact ⟨_, rfl, rfl⟩
  | 8, _ => exact ⟨_, rfl, rfl⟩
  | 9, _ => exact ⟨_, rfl, rfl⟩
  | 10, _ => exact ⟨_, rfl, rfl⟩
theorem zTg_spec {pc t : Nat} {off : Int} (h : zTg pc off = some t) : (pc : Int) + off = (t : Int) := by
  unfold zTg at h
  split at h
  · rename_i u hu
    cases h
    exact hu
  · cases h
theorem zcl_0 {t : FieldType} (h : zcl t = 0) : t = .int := by cases t <;> first | rfl | cases h
theorem zcl_1 {t : FieldType} (h : zcl t = 1) : t = .long := by cases t <;> first | rfl | cases h
theorem zcl_3 {t : FieldType} (h : zcl t = 3) : t = .boolean := by cases t <;> first | rfl | cases h
theorem zcl_2 {t : FieldType} (h : zcl t = 2) (a : Nat) : narrow t (.ref a) = .ref a ∧ fits t (.ref a) = true := by cases t <;> first | exact ⟨rfl, rfl⟩ | cases h
theorem zSpl {st rest : List Value} {na a : Nat} (g : zG) (h : st.drop na = .ref a :: rest) : st.map (zv g) = (((st.take na).reverse.map (zv g)).reverse) ++ .ref (zs g + a) :: rest.map (zv g) := by
  rw [← List.map_reverse, List.reverse_reverse]
  have h1 : st = st.take na ++ st.drop na := (List.take_append_drop na st).symm
  rw [h] at h1
  conv => lhs; rw [h1]
  rw [List.map_append]
  rfl
theorem zoi1 : Cond.instanceMethod Lib.objectInit ∈ zTB := zinT_mem (q := 87) (by decide +kernel)
theorem zoi2 : Cond.code Lib.objectInit ⟨#[0xb1]⟩ 1 none ∈ zTB := zinT_mem (q := 88) (by decide +kernel)
theorem zmx1 : Cond.static Lib.Math.max.name ∈ zTB := zinT_mem (q := 349) (by decide +kernel)
theorem zmx2 : Cond.code Lib.Math.max.name Lib.Math.max.code 2 (some .int) ∈ zTB := zinT_mem (q := 350) (by decide +kernel)
theorem zmn1 : Cond.static Lib.Math.min.name ∈ zTB := zinT_mem (q := 476) (by decide +kernel)
theorem zmn2 : Cond.code Lib.Math.min.name Lib.Math.min.code 2 (some .int) ∈ zTB := zinT_mem (q := 477) (by decide +kernel)
theorem zma1 : Cond.static Lib.Math.abs.name ∈ zTB := zinT_mem (q := 772) (by decide +kernel)
theorem zma2 : Cond.code Lib.Math.abs.name Lib.Math.abs.code 1 (some .int) ∈ zTB := zinT_mem (q := 773) (by decide +kernel)
theorem zmi : Cond.initialized "java/lang/Math" ∈ zTB := zinT_mem (q := 76) (by decide +kernel)
theorem zac1 : Cond.native arraycopyName ∈ zTB := zinT_mem (q := 401) (by decide +kernel)
theorem zac2 : Cond.static arraycopyName ∈ zTB := zinT_mem (q := 400) (by decide +kernel)
theorem zac3 : Cond.initialized "java/lang/System" ∈ zTB := zinT_mem (q := 78) (by decide +kernel)
theorem zaci : Cond.arrayClass .int ∈ zTB := zinT_mem (q := 118) (by decide +kernel)
theorem zacb : Cond.arrayClass .byte ∈ zTB := zinT_mem (q := 996) (by decide +kernel)
theorem zacz : Cond.arrayClass .boolean ∈ zTB := zinT_mem (q := 997) (by decide +kernel)

section ZNEW
variable {p : Program} {l : Launch} {e : Env} {R : Room} {s : State} {m : MethodId} {args : Array Value} {below : List Frame} {meth : Method} {c : Code} {H : Heap} {locs : List Loc} {cells slots : Nat} {Q : State → Prop}
variable {cc : ByteArray} {pc : Nat} {la : Array Slot} {rest : List Value} {g : zG} {h h' : zHp}
/-- the heap behind a new cell, whose number is the next one -/
theorem zRep_push {H1 : Heap} (hR : zRep g h H) (hn : h'.1 = h.1 + 1) (ho : ∀ q, q < h.1 → zE g h' q = zE g h q) (hz : H1.size = H.size + 1) (hq : ∀ q, q < H.size → H1[q]? = H[q]?) (hc : va_at g.1 zCl (H.size, zE g h' h.1) H1) : zRep g h' H1 := by
  refine ⟨by rw [hz, hR.1, hn]; omega, ?_⟩
  rw [zW_push hn ho]
  refine (hR.2.kept (fun k q hk => hq q.1 (hR.2 k q hk).lt)).app (fun k q hk => ?_)
  have hz : k < 1 := (List.getElem?_eq_some_iff.mp hk).1
  rw [show k = 0 by omega] at hk
  cases hk
  rw [← hR.1]
  exact hc
theorem zS_push {H0 H1 : Heap} {A : Nat → Prop} (hS : va_S A H0 H locs) (hz : H1.size = H.size + 1) (hq : ∀ q, q < H.size → H1[q]? = H[q]?) : va_S A H0 H1 locs :=
  ⟨Nat.le_trans hS.1 (by omega), fun x h1 h2 => (hq x (Nat.lt_of_lt_of_le h1 hS.1)).trans (hS.2.1 x h1 h2), hS.2.2⟩
theorem zdef {t : FieldType} {h : zHp} {g : zG} {c a j : Nat} (ht : zTy c j = t) (h0 : zcl t ≠ 9) (h1 : h.2.1 a j = 0) (h2 : h.2.2.1 a j = none) (h3 : h.2.2.2 a j = 0) : defaultValue t = zfv g h c a j := by
  unfold zfv
  rw [ht, h1, h2, h3]
  cases t <;> first | rfl | exact absurd rfl h0
end ZNEW
theorem zTy_ok : ∀ c, c < 11 → ∀ j, zcl (zTy c j) ≠ 9 := by
  intro c hc j
  match c, hc with
  | 0, _ => (show zcl (tyX0 j) ≠ 9); unfold tyX0; split <;> decide
  | 1, _ => (show zcl (tyX1 j) ≠ 9); unfold tyX1; split <;> decide
  | 2, _ => (show zcl (tyX2 j) ≠ 9); unfold tyX2; split <;> decide
  | 3, _ => (show zcl (tyX3 j) ≠ 9); unfold tyX3; split <;> decide
  | 4, _ => (show zcl (tyX4 j) ≠ 9); unfold tyX4; split <;> decide
  | 5, _ => (show zcl (tyX5 j) ≠ 9); unfold tyX5; split <;> decide
  | 6, _ => (show zcl (tyX6 j) ≠ 9); unfold tyX6; split <;> decide
  | 7, _ => (show zcl (tyX7 j) ≠ 9); unfold tyX7; split <;> decide
  | 8, _ => (show zcl (tyX8 j) ≠ 9); unfold tyX8; split <;> decide
  | 9, _ => (show zcl (tyX9 j) ≠ 9); unfold tyX9; split <;> decide
  | 10, _ => (show zcl (tyX10 j) ≠ 9); unfold tyX10; split <;> decide
end
section
section ZSZ
variable {p : Program} {l : Launch} {e : Env} {R : Room} {s : State} {m : MethodId} {args : Array Value} {below : List Frame} {meth : Method} {c : Code} {locs : List Loc} {cells slots : Nat} {Q : State → Prop}
/-- a write leaves the heap as large as it was -/
theorem zsz {g : zG} {h h' : zHp} {a : Nat} {H1 : Heap} {g2 : JFrame} (hcz : zs g + h.1 = s.heap.size + cells) (ha : a < h.1) (hn : h'.1 = h.1) (hP1 : va_P g.1 zCl (zW g h') H1) (k : H1.size = zs g + h'.1 → W p l e R s m args below meth c H1 locs cells slots Q g2) : W p l e R s m args below meth c H1 locs cells slots Q g2 := by
  intro T hT X
  refine k ?_ T hT X
  have h1 : T.heap.size ≤ s.heap.size + cells := X.same.2.2.1
  rw [hT] at h1
  have h2 := (hP1 (h.1 - 1) _ (zW_get (by omega))).lt
  dsimp only at h2
  omega
end ZSZ
set_option maxHeartbeats 8000000 in
/-- a run of the interpreter is a run of the machine -/
theorem zsnd (l0 : Launch) (sc : zScr) : ∀ (n : Nat) (s : zSt) (x : zRs), zrun sc n s = some x → zSnd l0 sc s x
  | 0, _, _, h => by cases h
  | n + 1, (k, pc, ls, st, h), x, hrun0 => by
    intro M g p e R sS m args below meth c H locs cells slots Q la hM hC hRep hS hL hcz hc1 hc2 hret
    dsimp only at hM hRep hL hcz hc1 hc2 hret ⊢
    have hrun : zstp (zrun sc n) (zact sc (k, pc, ls, st, h)) = some x := hrun0
    have hxn : h.1 ≤ x.2.1 := zrun_n sc (n + 1) _ x hrun0
    unfold zact at hrun
    dsimp only at hrun
    rw [hM] at hrun
    dsimp only at hrun
    obtain ⟨hx, hb, hml, hown, hts, hK, hN, hX, hsz, hnm, hfr, hlo⟩ := id hC
    have ih := zsnd l0 sc n
    have hbs : zb g < sS.heap.size := Nat.lt_of_lt_of_le hX.2 hsz
    have hbA : ¬ zA g (zb g) := Nat.not_le.mpr hX.2
    have nn : zstp (zrun sc n) none = some x → False := fun e => by cases e
    split at hrun
    · exact (nn hrun).elim
    rename_i y hd
    by_cases hlen : y.2 = zlen y.1 y.2
    case neg => rw [if_neg hlen] at hrun; exact (nn hrun).elim
    rw [if_pos hlen] at hrun
    obtain ⟨ins, len⟩ := y
    dsimp only at hlen hrun
    have goL : ∀ (pc' : Nat) (ls' : List (Option Value)) (st' : List Value) (la' : Array Slot), zstp (zrun sc n) (zgo k pc' ls' st' h) = some x → zLs g M.2.2.1 k ls' la' → W p l0 e R sS m args below meth c H locs cells slots Q (F0 m pc' la' (st'.map (zv g))) := fun pc' ls' st' la' e hL' => ih (k, pc', ls', st', h) x e M g H locs cells slots Q la' hM hC hRep hS hL' hcz hc1 hc2 hret
    have go : ∀ (pc' : Nat) (st' : List Value), zstp (zrun sc n) (zgo k pc' ls st' h) = some x → W p l0 e R sS m args below meth c H locs cells slots Q (F0 m pc' la (st'.map (zv g))) := fun pc' st' e => goL pc' ls st' la e hL
    have jp : ∀ (t : Option Nat) (st' : List Value), zstp (zrun sc n) (zjp k t ls st' h) = some x → (∀ t', t = some t' → W p l0 e R sS m args below meth c H locs cells slots Q (F0 m t' la (st'.map (zv g))) → W p l0 e R sS m args below meth c H locs cells slots Q (F0 m pc la (st.map (zv g)))) → W p l0 e R sS m args below meth c H locs cells slots Q (F0 m pc la (st.map (zv g))) := by
      intro t st' e kk
      cases t with
      | none => cases e
      | some t => exact kk t rfl (go t st' e)
    have goH : ∀ (pc' : Nat) (st' : List Value) (i' : Nat → Nat → Int32) (r' : Nat → Nat → Option Nat) (l' : Nat → Nat → Int64) (H' : Heap) (locs' : List Loc), zstp (zrun sc n) (zgo k pc' ls st' (h.1, i', r', l')) = some x → zRep g (h.1, i', r', l') H' → va_S (zA g) sS.heap H' locs' → W p l0 e R sS m args below meth c H' locs' cells slots Q (F0 m pc' la (st'.map (zv g))) := fun pc' st' i' r' l' H' locs' e hR' hS' => ih (k, pc', ls, st', (h.1, i', r', l')) x e M g H' locs' cells slots Q la hM hC hR' hS' hL hcz hc1 hc2 hret
    have goN : ∀ (pc' : Nat) (st' : List Value) (i' : Nat → Nat → Int32) (r' : Nat → Nat → Option Nat) (l' : Nat → Nat → Int64) (H' : Heap), zstp (zrun sc n) (zgo k pc' ls st' (h.1 + 1, i', r', l')) = some x → (h.1 + 1 ≤ x.2.1 → zSL (h.1 + 1) ≤ zSL x.2.1 → zRep g (h.1 + 1, i', r', l') H') → va_S (zA g) sS.heap H' locs → W p l0 e R sS m args below meth c H' locs (cells + 1) (slots + (zK h.1).2) Q (F0 m pc' la (st'.map (zv g))) := by
      intro pc' st' i' r' l' H' e hR' hS'
      have h1 : h.1 + 1 ≤ x.2.1 := zrun_n sc n _ x e
      have h2 : zSL (h.1 + 1) ≤ zSL x.2.1 := zSL_mono h1
      have h3 := zSL_succ h.1
      refine ih (k, pc', ls, st', (h.1 + 1, i', r', l')) x e M g H' locs _ _ Q la hM hC (hR' h1 h2) hS' hL (by dsimp only; omega) (by dsimp only; omega) (by dsimp only; omega) (fun pcR lsR H2 locs2 q1 q2 q3 => W.cs ?_ ?_ (hret pcR lsR H2 locs2 q1 q2 q3))
      · dsimp only; omega
      · dsimp only; omega
    cases ins with
    | iadd =>
      have hl : len = 1 := hlen
      subst hl
      simp only [zins] at hrun
      split at hrun
      · exact lv_iadd hx hb hd (go _ _ hrun)
      · exact (nn hrun).elim
    | isub =>
      have hl : len = 1 := hlen
      subst hl
      simp only [zins] at hrun
      split at hrun
      · exact lv_isub hx hb hd (go _ _ hrun)
      · exact (nn hrun).elim
    | imul =>
      have hl : len = 1 := hlen
      subst hl
      simp only [zins] at hrun
      split at hrun
      · exact lv_imul hx hb hd (go _ _ hrun)
      · exact (nn hrun).elim
    | ishl =>
      have hl : len = 1 := hlen
      subst hl
      simp only [zins] at hrun
      split at hrun
      · exact lv_ishl hx hb hd (go _ _ hrun)
      · exact (nn hrun).elim
    | ishr =>
      have hl : len = 1 := hlen
      subst hl
      simp only [zins] at hrun
      split at hrun
      · exact lv_ishr hx hb hd (go _ _ hrun)
      · exact (nn hrun).elim
    | iand =>
      have hl : len = 1 := hlen
      subst hl
      simp only [zins] at hrun
      split at hrun
      · exact lv_iand hx hb hd (go _ _ hrun)
      · exact (nn hrun).elim
    | ior =>
      have hl : len = 1 := hlen
      subst hl
      simp only [zins] at hrun
      split at hrun
      · exact lv_ior hx hb hd (go _ _ hrun)
      · exact (nn hrun).elim
    | ixor =>
      have hl : len = 1 := hlen
      subst hl
      simp only [zins] at hrun
      split at hrun
      · exact lv_ixor hx hb hd (go _ _ hrun)
      · exact (nn hrun).elim
    | ladd =>
      have hl : len = 1 := hlen
      subst hl
      simp only [zins] at hrun
      split at hrun
      · exact lv_ladd hx hb hd (go _ _ hrun)
      · exact (nn hrun).elim
    | lmul =>
      have hl : len = 1 := hlen
      subst hl
      simp only [zins] at hrun
      split at hrun
      · exact lv_lmul hx hb hd (go _ _ hrun)
      · exact (nn hrun).elim
    | lcmp =>
      have hl : len = 1 := hlen
      subst hl
      simp only [zins] at hrun
      split at hrun
      · exact W.lcmp hx hb hd (go _ _ hrun)
      · exact (nn hrun).elim
    | iushr =>
      have hl : len = 1 := hlen
      subst hl
      simp only [zins] at hrun
      split at hrun
      · exact lv_iushr hx hb hd rfl (go _ _ hrun)
      · exact (nn hrun).elim
    | i2b =>
      have hl : len = 1 := hlen
      subst hl
      simp only [zins] at hrun
      split at hrun
      · exact lv_i2b hx hb hd rfl (go _ _ hrun)
      · exact (nn hrun).elim
    | idiv =>
      have hl : len = 1 := hlen
      subst hl
      simp only [zins] at hrun
      split at hrun
      · split at hrun
        · exact (nn hrun).elim
        · rename_i hne
          exact lv_idiv hx hb hd hne (go _ _ hrun)
      · exact (nn hrun).elim
    | irem =>
      have hl : len = 1 := hlen
      subst hl
      simp only [zins] at hrun
      split at hrun
      · split at hrun
        · exact (nn hrun).elim
        · rename_i hne
          exact lv_irem hx hb hd hne (go _ _ hrun)
      · exact (nn hrun).elim
    | dup =>
      have hl : len = 1 := hlen
      subst hl
      simp only [zins] at hrun
      split at hrun
      · split at hrun
        · rename_i hc
          exact lv_dup hx hb hd ((zv_cat g _).trans hc) (go _ _ hrun)
        · exact (nn hrun).elim
      · exact (nn hrun).elim
    | dup2 =>
      have hl : len = 1 := hlen
      subst hl
      simp only [zins] at hrun
      split at hrun
      · split at hrun
        · rename_i hc
          exact lv_dup2_11 hx hb hd ((zv_cat g _).trans hc.1) ((zv_cat g _).trans hc.2) (go _ _ hrun)
        · exact (nn hrun).elim
      · exact (nn hrun).elim
    | iconst n =>
      have hl : len = 1 := hlen
      subst hl
      simp only [zins] at hrun
      exact lv_iconst hx hb hd rfl (go _ _ hrun)
    | bipush n =>
      have hl : len = 2 := hlen
      subst hl
      simp only [zins] at hrun
      exact lv_bipush hx hb hd rfl (go _ _ hrun)
    | sipush n =>
      have hl : len = 3 := hlen
      subst hl
      simp only [zins] at hrun
      exact lv_sipush hx hb hd rfl (go _ _ hrun)
    | lconst n =>
      have hl : len = 1 := hlen
      subst hl
      simp only [zins] at hrun
      exact lv_lconst hx hb hd rfl (go _ _ hrun)
    | ldc i =>
      have hl : len = 2 := hlen
      subst hl
      simp only [zins] at hrun
      split at hrun
      · rename_i v hv
        exact lv_ldc hx hb hown (hts _ (zI_spec hv)) hd (go _ _ hrun)
      · exact (nn hrun).elim
    | ldc_w i =>
      have hl : len = 3 := hlen
      subst hl
      simp only [zins] at hrun
      split at hrun
      · rename_i v hv
        exact lv_ldcw hx hb hown (hts _ (zI_spec hv)) hd (go _ _ hrun)
      · exact (nn hrun).elim
    | ldc2_w i =>
      have hl : len = 3 := hlen
      subst hl
      simp only [zins] at hrun
      split at hrun
      · rename_i v hv
        exact lv_ldc2 hx hb hown (hts _ (zL_spec hv)) hd (go _ _ hrun)
      · exact (nn hrun).elim
    | aload_n j =>
      have hl : len = 1 := hlen
      subst hl
      simp only [zins] at hrun
      split at hrun
      · rename_i a ha
        exact lv_aload_n hx hb hd rfl (hL.2.2.1 _ _ ha) (go _ _ hrun)
      · rename_i a ha
        exact lv_aload_n hx hb hd rfl (hL.2.2.1 _ _ ha) (go _ _ hrun)
      · exact (nn hrun).elim
    | iload_n j =>
      have hl : len = 1 := hlen
      subst hl
      simp only [zins] at hrun
      split at hrun
      · rename_i a ha
        exact lv_iload_n hx hb hd rfl (hL.2.2.1 _ _ ha) (go _ _ hrun)
      · exact (nn hrun).elim
    | lload_n j =>
      have hl : len = 1 := hlen
      subst hl
      simp only [zins] at hrun
      split at hrun
      · rename_i a ha
        exact lv_lload_n hx hb hd rfl (hL.2.2.1 _ _ ha) (go _ _ hrun)
      · exact (nn hrun).elim
    | aload j =>
      have hl : len = 2 := hlen
      subst hl
      simp only [zins] at hrun
      split at hrun
      · rename_i a ha
        exact lv_aload hx hb hd (hL.2.2.1 _ _ ha) (go _ _ hrun)
      · exact (nn hrun).elim
    | iload j =>
      have hl : len = 2 := hlen
      subst hl
      simp only [zins] at hrun
      split at hrun
      · rename_i a ha
        exact lv_iload hx hb hd (hL.2.2.1 _ _ ha) (go _ _ hrun)
      · exact (nn hrun).elim
    | lload j =>
      have hl : len = 2 := hlen
      subst hl
      simp only [zins] at hrun
      split at hrun
      · rename_i a ha
        exact lv_lload hx hb hd (hL.2.2.1 _ _ ha) (go _ _ hrun)
      · exact (nn hrun).elim
    | istore_n j =>
      have hl : len = 1 := hlen
      subst hl
      simp only [zins] at hrun
      split at hrun
      · split at hrun
        · rename_i ls' hs'
          exact lv_istore_n hx hb hd rfl (zLs_has hL) (Nat.lt_of_lt_of_le (zset_lt hs') hL.2.2.2.2) rfl (fun la' hla' => goL _ _ _ _ hrun (zLs_set hL hs' rfl hla'))
        · exact (nn hrun).elim
      · exact (nn hrun).elim
    | istore j =>
      have hl : len = 2 := hlen
      subst hl
      simp only [zins] at hrun
      split at hrun
      · split at hrun
        · rename_i ls' hs'
          exact lv_istore hx hb hd (zLs_has hL) (Nat.lt_of_lt_of_le (zset_lt hs') hL.2.2.2.2) rfl (fun la' hla' => goL _ _ _ _ hrun (zLs_set hL hs' rfl hla'))
        · exact (nn hrun).elim
      · exact (nn hrun).elim
    | astore_n j =>
      have hl : len = 1 := hlen
      subst hl
      simp only [zins] at hrun
      split at hrun
      · split at hrun
        · rename_i ls' hs'
          exact lv_astore_n hx hb hd rfl (zLs_has hL) (Nat.lt_of_lt_of_le (zset_lt hs') hL.2.2.2.2) rfl (fun la' hla' => goL _ _ _ _ hrun (zLs_set hL hs' rfl hla'))
        · exact (nn hrun).elim
      · exact (nn hrun).elim
    | astore j =>
      have hl : len = 2 := hlen
      subst hl
      simp only [zins] at hrun
      split at hrun
      · split at hrun
        · rename_i ls' hs'
          exact lv_astore hx hb hd (zLs_has hL) (Nat.lt_of_lt_of_le (zset_lt hs') hL.2.2.2.2) rfl (fun la' hla' => goL _ _ _ _ hrun (zLs_set hL hs' rfl hla'))
        · exact (nn hrun).elim
      · exact (nn hrun).elim
    | lstore_n j =>
      have hl : len = 1 := hlen
      subst hl
      simp only [zins] at hrun
      split at hrun
      · split at hrun
        · rename_i hj
          exact lv_lstore_n hx hb hd rfl (zLs_has hL) hj.2 rfl (fun la' hla' => goL _ _ _ _ hrun (zLs_set2 hL hj.1 hla'))
        · exact (nn hrun).elim
      · exact (nn hrun).elim
    | lstore j =>
      have hl : len = 2 := hlen
      subst hl
      simp only [zins] at hrun
      split at hrun
      · split at hrun
        · rename_i hj
          exact lv_lstore hx hb hd (zLs_has hL) hj.2 rfl (fun la' hla' => goL _ _ _ _ hrun (zLs_set2 hL hj.1 hla'))
        · exact (nn hrun).elim
      · exact (nn hrun).elim
    | iinc j n =>
      have hl : len = 3 := hlen
      subst hl
      simp only [zins] at hrun
      split at hrun
      · rename_i y hy
        split at hrun
        · rename_i ls' hs'
          obtain ⟨q, hq⟩ := List.getElem?_of_mem (zLs_mem (g := g) hy)
          exact lv_iinc hx hb hd (zLs_has hL) hq rfl (Nat.lt_of_lt_of_le (zset_lt hs') hL.2.2.2.2) rfl (fun la' hla' => goL _ _ _ _ hrun (zLs_set hL hs' rfl hla'))
        · exact (nn hrun).elim
      · exact (nn hrun).elim
    | goto off =>
      have hl : len = 3 := hlen
      subst hl
      simp only [zins] at hrun
      exact jp _ _ hrun (fun t ht k => lv_goto hx hb hd (zTg_spec ht) k)
    | ifCond cnd off =>
      have hl : len = 3 := hlen
      subst hl
      simp only [zins] at hrun
      split at hrun
      · split at hrun
        · rename_i t ht
          cases cnd
          · exact lv_if_eq hx hb hd (zTg_spec ht) (fun hq => go _ _ (by rw [if_pos (by simp [zcmp, hq])] at hrun; exact hrun)) (fun hq => go _ _ (by rw [if_neg (by simp [zcmp, hq])] at hrun; exact hrun))
          · exact lv_if_ne hx hb hd (zTg_spec ht) (fun hq => go _ _ (by rw [if_pos (by simp [zcmp, hq])] at hrun; exact hrun)) (fun hq => go _ _ (by rw [if_neg (by simp [zcmp, hq])] at hrun; exact hrun))
          · exact lv_if_lt hx hb hd (zTg_spec ht) (fun hq => go _ _ (by rw [if_pos (by simp [zcmp, hq])] at hrun; exact hrun)) (fun hq => go _ _ (by rw [if_neg (by simp [zcmp, hq])] at hrun; exact hrun))
          · exact lv_if_ge hx hb hd (zTg_spec ht) (fun hq => go _ _ (by rw [if_pos (by simp [zcmp, hq])] at hrun; exact hrun)) (fun hq => go _ _ (by rw [if_neg (by simp [zcmp, hq])] at hrun; exact hrun))
          · exact lv_if_gt hx hb hd (zTg_spec ht) (fun hq => go _ _ (by rw [if_pos (by simp [zcmp, hq])] at hrun; exact hrun)) (fun hq => go _ _ (by rw [if_neg (by simp [zcmp, hq])] at hrun; exact hrun))
          · exact lv_if_le hx hb hd (zTg_spec ht) (fun hq => go _ _ (by rw [if_pos (by simp [zcmp, hq])] at hrun; exact hrun)) (fun hq => go _ _ (by rw [if_neg (by simp [zcmp, hq])] at hrun; exact hrun))
        · exact (nn hrun).elim
      · exact (nn hrun).elim
    | if_icmp cnd off =>
      have hl : len = 3 := hlen
      subst hl
      simp only [zins] at hrun
      split at hrun
      · split at hrun
        · rename_i t ht
          cases cnd
          · exact lv_icmp_eq hx hb hd (zTg_spec ht) (fun hq => go _ _ (by rw [if_pos (by simp [zcmp, hq])] at hrun; exact hrun)) (fun hq => go _ _ (by rw [if_neg (by simp [zcmp, hq])] at hrun; exact hrun))
          · exact lv_icmp_ne hx hb hd (zTg_spec ht) (fun hq => go _ _ (by rw [if_pos (by simp [zcmp, hq])] at hrun; exact hrun)) (fun hq => go _ _ (by rw [if_neg (by simp [zcmp, hq])] at hrun; exact hrun))
          · exact lv_icmp_lt hx hb hd (zTg_spec ht) (fun hq => go _ _ (by rw [if_pos (by simp [zcmp, hq])] at hrun; exact hrun)) (fun hq => go _ _ (by rw [if_neg (by simp [zcmp, hq])] at hrun; exact hrun))
          · exact lv_icmp_ge hx hb hd (zTg_spec ht) (fun hq => go _ _ (by rw [if_pos (by simp [zcmp, hq])] at hrun; exact hrun)) (fun hq => go _ _ (by rw [if_neg (by simp [zcmp, hq])] at hrun; exact hrun))
          · exact lv_icmp_gt hx hb hd (zTg_spec ht) (fun hq => go _ _ (by rw [if_pos (by simp [zcmp, hq])] at hrun; exact hrun)) (fun hq => go _ _ (by rw [if_neg (by simp [zcmp, hq])] at hrun; exact hrun))
          · exact lv_icmp_le hx hb hd (zTg_spec ht) (fun hq => go _ _ (by rw [if_pos (by simp [zcmp, hq])] at hrun; exact hrun)) (fun hq => go _ _ (by rw [if_neg (by simp [zcmp, hq])] at hrun; exact hrun))
        · exact (nn hrun).elim
      · exact (nn hrun).elim
    | tableswitch d lo hi offs =>
      simp only [zins] at hrun
      split at hrun
      · refine jp _ _ hrun (fun t ht k => ?_)
        unfold zsw at ht
        split at ht
        · rename_i hq
          exact lv_tableOut hx hb hd hq (zTg_spec ht) k
        · rename_i hq
          split at ht
          · rename_i off ho
            exact lv_tableIn hx hb hd (fun z => hq (Or.inl z)) (fun z => hq (Or.inr z)) ho (zTg_spec ht) k
          · cases ht
      · exact (nn hrun).elim
    | lookupswitch d ps =>
      simp only [zins] at hrun
      split at hrun
      · split at hrun
        · rename_i hp
          exact jp _ _ hrun (fun t ht k => lv_lookup hx hb hd hp rfl (zTg_spec ht) k)
        · exact (nn hrun).elim
      · exact (nn hrun).elim
    | getfield i =>
      have hl : len = 3 := hlen
      subst hl
      simp only [zins] at hrun
      split at hrun
      · rename_i ci j a st' hF
        split at hrun
        · rename_i hok
          obtain ⟨ha, hka⟩ := zok_iff.mp hok
          obtain ⟨C, T, N, hcl, hj, hlk, hT⟩ := zF_spec hF
          obtain ⟨h11, hck⟩ := zCK_of hcl
          have hN' := zK_obj hka hcl
          have he : (zW g h)[a]? = some (zs g + a, .inr (ci, (List.range (zK a).2).map (zfv g h ci a))) := by rw [zW_get ha, zE_obj hka h11]
          have hv : ((List.range (zK a).2).map (zfv g h ci a))[j]? = some (zfv g h ci a j) := by
            have : j < (zK a).2 := by rw [← hN']; exact hj
            simp [this]
          refine va_get (D := g.1) (ci := ci) (C := C) (T := T) (N := N) hx hb hts hck.1 hown hK hRep.2 a he hcl j hj (hts _ hlk) (fun z h9 => by rw [hT] at h9; exact h9) hv hd ?_
          split at hrun
          · rename_i h0
            rw [show zfv g h ci a j = .int (h.2.1 a j) by unfold zfv; rw [h0]; rfl]
            exact go _ _ hrun
          · rename_i h0
            rw [show zfv g h ci a j = .int (h.2.1 a j) by unfold zfv; rw [h0]; rfl]
            exact go _ _ hrun
          · rename_i h0
            rw [show zfv g h ci a j = .long (h.2.2.2 a j) by unfold zfv; rw [h0]; rfl]
            exact go _ _ hrun
          · rename_i h0
            rw [show zfv g h ci a j = zv g (va_rf (h.2.2.1 a j)) by unfold zfv; rw [h0, zv_rf]; rfl]
            exact go _ _ hrun
          · exact (nn hrun).elim
        · exact (nn hrun).elim
      · exact (nn hrun).elim
    | putfield i =>
      have hl : len = 3 := hlen
      subst hl
      simp only [zins] at hrun
      split at hrun
      · rename_i ci j v a st' hF
        split at hrun
        · rename_i hok
          obtain ⟨hok, hfin⟩ := hok
          obtain ⟨ha, hka⟩ := zok_iff.mp hok
          obtain ⟨C, T, N, hcl, hj, hlk, hT⟩ := zF_spec hF
          obtain ⟨h11, hck⟩ := zCK_of hcl
          have hN' := zK_obj hka hcl
          have hjl : j < (zK a).2 := by rw [← hN']; exact hj
          have he : (zW g h)[a]? = some (zs g + a, .inr (ci, (List.range (zK a).2).map (zfv g h ci a))) := by rw [zW_get ha, zE_obj hka h11]
          have put : ∀ (i' : Nat → Nat → Int32) (r' : Nat → Nat → Option Nat) (l' : Nat → Nat → Int64), narrow (zTy ci j) (zv g v) = zv g v → fits (zTy ci j) (zv g v) = true → zfv g (h.1, i', r', l') ci a j = zv g v → (∀ t, t ≠ j → zfv g (h.1, i', r', l') ci a t = zfv g h ci a t) → (∀ q, q ≠ a → i' q = h.2.1 q ∧ r' q = h.2.2.1 q ∧ l' q = h.2.2.2 q) → zstp (zrun sc n) (zgo k (pc + 3) ls st' (h.1, i', r', l')) = some x → W p l0 e R sS m args below meth c H locs cells slots Q (F0 m pc la ((v :: Value.ref a :: st').map (zv g))) := by
            intro i' r' l' hnw hft h1 h2 h3 hrun'
            have hset : (zW g h).set a (zs g + a, .inr (ci, ((List.range (zK a).2).map (zfv g h ci a)).set j (zv g v))) = zW g (h.1, i', r', l') := by
              rw [zset_obj h1 h2]
              have hE : zE g (h.1, i', r', l') a = .inr (ci, (List.range (zK a).2).map (zfv g (h.1, i', r', l') ci a)) := zE_obj hka h11
              rw [← hE]
              exact zW_set ha rfl (fun q hq => zE_congr (h3 q hq).1 (h3 q hq).2.1 (h3 q hq).2.2)
            rw [hcl] at hfin
            simp only [Option.map_some, Option.some.injEq] at hfin
            rcases hfin with hf | ⟨hf, hnm0, hdecl⟩
            · refine va_put (D := g.1) (ci := ci) (C := C) (T := T) (N := N) hx hb hts hck.1 (zTy ci) hck.2.1 hck.2.2.1 hown hK hRep.2 (zD g h) hS a he hcl j hj (hts _ hlk) (fun z h9 => by rw [hT] at h9; exact h9) hf (hck.2.1 j hj) hnw hft (by simpa using hjl) hd (fun H1 locs1 hP1 _ hS1 => ?_)
              rw [hset] at hP1
              exact zsz (h' := (h.1, i', r', l')) hcz ha rfl hP1 (fun hz1 => goH _ _ _ _ _ _ _ hrun' ⟨hz1, hP1⟩ hS1)
            · refine va_putF (D := g.1) (ci := ci) (C := C) (T := T) (N := N) hx hb hts hck.1 (zTy ci) hck.2.1 hck.2.2.1 hown hK hRep.2 (zD g h) hS a he hcl j hj (hts _ hlk) (fun z h9 => by rw [hT] at h9; exact h9) hf (hnm hnm0) hdecl (hck.2.1 j hj) hnw hft (by simpa using hjl) hd (fun H1 locs1 hP1 _ hS1 => ?_)
              rw [hset] at hP1
              exact zsz (h' := (h.1, i', r', l')) hcz ha rfl hP1 (fun hz1 => goH _ _ _ _ _ _ _ hrun' ⟨hz1, hP1⟩ hS1)
          have same : ∀ t, t ≠ j → ∀ (f : Nat → Nat → Int32) (y : Int32), zU f a j y a t = f a t := fun t ht f y => by simp [zU, ht]
          split at hrun
          · rename_i y h0
            refine put _ _ _ ?_ ?_ ?_ ?_ ?_ hrun
            · rw [zcl_0 h0]; rfl
            · rw [zcl_0 h0]; rfl
            · unfold zfv; rw [h0]; simp [zU, zv]
            · intro t ht; unfold zfv; simp [zU, ht]
            · intro q hq; exact ⟨zU_ne hq, rfl, rfl⟩
          · rename_i y h0
            split at hrun
            · rename_i hy
              refine put _ _ _ ?_ ?_ ?_ ?_ ?_ hrun
              · rw [zcl_3 h0]; rcases hy with rfl | rfl <;> rfl
              · rw [zcl_3 h0]; rcases hy with rfl | rfl <;> rfl
              · unfold zfv; rw [h0]; simp [zU, zv]
              · intro t ht; unfold zfv; simp [zU, ht]
              · intro q hq; exact ⟨zU_ne hq, rfl, rfl⟩
            · exact (nn hrun).elim
          · rename_i y h0
            refine put _ _ _ ?_ ?_ ?_ ?_ ?_ hrun
            · rw [zcl_1 h0]; rfl
            · rw [zcl_1 h0]; rfl
            · unfold zfv; rw [h0]; simp [zU, zv]
            · intro t ht; unfold zfv; simp [zU, ht]
            · intro q hq; exact ⟨rfl, rfl, zU_ne hq⟩
          · rename_i y h0
            refine put _ _ _ ?_ ?_ ?_ ?_ ?_ hrun
            · exact (zcl_2 h0 _).1
            · exact (zcl_2 h0 _).2
            · unfold zfv; rw [h0]; simp [zU, zv, va_rf]
            · intro t ht; unfold zfv; simp [zU, ht]
            · intro q hq; exact ⟨rfl, zU_ne hq, rfl⟩
          · exact (nn hrun).elim
        · exact (nn hrun).elim
      · exact (nn hrun).elim
    | ireturn =>
      have hl : len = 1 := hlen
      subst hl
      simp only [zins] at hrun
      split at hrun
      · split at hrun
        · rename_i hty
          simp only [zstp, Option.some.injEq] at hrun
          subst hrun
          exact W.cs (by simp) (by simp) (hret pc la H locs (Or.inl ⟨_, rfl, hd, hty⟩) hRep hS)
        · exact (nn hrun).elim
      · exact (nn hrun).elim
    | lreturn =>
      have hl : len = 1 := hlen
      subst hl
      simp only [zins] at hrun
      split at hrun
      · split at hrun
        · rename_i hty
          simp only [zstp, Option.some.injEq] at hrun
          subst hrun
          exact W.cs (by simp) (by simp) (hret pc la H locs (Or.inr (Or.inl ⟨_, rfl, hd, hty⟩)) hRep hS)
        · exact (nn hrun).elim
      · exact (nn hrun).elim
    | return_ =>
      have hl : len = 1 := hlen
      subst hl
      simp only [zins] at hrun
      split at hrun
      · split at hrun
        · rename_i hty
          simp only [zstp, Option.some.injEq] at hrun
          subst hrun
          exact W.cs (by simp) (by simp) (hret pc la H locs (Or.inr (Or.inr ⟨rfl, hd, hty⟩)) hRep hS)
        · exact (nn hrun).elim
      · exact (nn hrun).elim
    | arraylength =>
      have hl : len = 1 := hlen
      subst hl
      simp only [zins] at hrun
      split at hrun
      · exact va_slen hx hb hX.1 hbs hbA hS hd (go _ _ hrun)
      · exact (nn hrun).elim
    | iaload =>
      have hl : len = 1 := hlen
      subst hl
      simp only [zins] at hrun
      split at hrun
      · split at hrun
        · rename_i hq
          obtain ⟨ha, hka⟩ := zok_iff.mp hq.1
          exact va_iald (D := g.1) (tys := ztys g) hx hb hK hRep.2 _ 0 (by rw [zW_get ha, zE_100 hka]) rfl hq.2 hd (go _ _ hrun)
        · exact (nn hrun).elim
      · split at hrun
        · rename_i hq
          exact va_sld hx hb hX.1 hbs hbA hS hq hd (go _ _ hrun)
        · exact (nn hrun).elim
      · exact (nn hrun).elim
    | baload =>
      have hl : len = 1 := hlen
      subst hl
      simp only [zins] at hrun
      split at hrun
      · split at hrun
        · rename_i hq
          rcases hq.1 with hq1 | hq1
          · obtain ⟨ha, hka⟩ := zok_iff.mp hq1
            exact va_bald (D := g.1) (tys := ztys g) hx hb hK hRep.2 _ 1 (by rw [zW_get ha, zE_101 hka]) rfl hq.2 hd (go _ _ hrun)
          · obtain ⟨ha, hka⟩ := zok_iff.mp hq1
            exact va_zald (D := g.1) (tys := ztys g) hx hb hK hRep.2 _ 2 (by rw [zW_get ha, zE_102 hka]) rfl hq.2 hd (go _ _ hrun)
        · exact (nn hrun).elim
      · exact (nn hrun).elim
    | aaload =>
      have hl : len = 1 := hlen
      subst hl
      simp only [zins] at hrun
      split at hrun
      · split at hrun
        · rename_i j a st' hq
          rcases hq.1 with hq1 | hq1
          · obtain ⟨ha, hka⟩ := zok_iff.mp hq1
            refine va_aldq (D := g.1) (tys := ztys g) hx hb hK hRep.2 a 3 (by rw [zW_get ha, zE_103 hka]) rfl hq.2 hd ?_
            rw [show va_rf (zqs g h a j.toNatClampNeg) = zv g (va_rf (h.2.2.1 a j.toNatClampNeg)) from (zv_rf g _).symm]
            exact go _ _ hrun
          · obtain ⟨ha, hka⟩ := zok_iff.mp hq1
            refine va_aldq (D := g.1) (tys := ztys g) hx hb hK hRep.2 a 4 (by rw [zW_get ha, zE_104 hka]) rfl hq.2 hd ?_
            rw [show va_rf (zqs g h a j.toNatClampNeg) = zv g (va_rf (h.2.2.1 a j.toNatClampNeg)) from (zv_rf g _).symm]
            exact go _ _ hrun
        · exact (nn hrun).elim
      · exact (nn hrun).elim
    | iastore =>
      have hl : len = 1 := hlen
      subst hl
      simp only [zins] at hrun
      split at hrun
      · split at hrun
        · rename_i y j a st' hq
          obtain ⟨ha, hka⟩ := zok_iff.mp hq.1
          refine va_iast (D := g.1) (tys := ztys g) hx hb hK hRep.2 (zD g h) hS a 0 (by rw [zW_get ha, zE_100 hka]) rfl hq.2 hd (fun H1 locs1 hP1 _ hS1 => ?_)
          have hE : zE g (h.1, zU h.2.1 a j.toNatClampNeg y, h.2.2.1, h.2.2.2) a = .inl (g.2.1, (zK a).2, .inl (upd (h.2.1 a) j.toNatClampNeg y)) := by rw [zE_100 hka, ← zU_upd]
          rw [← hE, zW_set (h := h) (h' := (h.1, zU h.2.1 a j.toNatClampNeg y, h.2.2.1, h.2.2.2)) ha rfl (fun q hq' => zE_congr (zU_ne hq') rfl rfl)] at hP1
          exact zsz (h' := (h.1, zU h.2.1 a j.toNatClampNeg y, h.2.2.1, h.2.2.2)) hcz ha rfl hP1 (fun hz1 => goH _ _ _ _ _ _ _ hrun ⟨hz1, hP1⟩ hS1)
        · exact (nn hrun).elim
      · exact (nn hrun).elim
    | bastore =>
      have hl : len = 1 := hlen
      subst hl
      simp only [zins] at hrun
      split at hrun
      · split at hrun
        · rename_i y j a st' hq
          split at hrun
          · rename_i hq1
            obtain ⟨ha, hka⟩ := zok_iff.mp hq1
            refine va_bast (D := g.1) (tys := ztys g) hx hb hK hRep.2 (zD g h) hS a 1 (by rw [zW_get ha, zE_101 hka]) rfl hq hd (fun H1 locs1 hP1 _ hS1 => ?_)
            have hE : zE g (h.1, zU h.2.1 a j.toNatClampNeg (vp_nar .byte y), h.2.2.1, h.2.2.2) a = .inl (g.2.2.1, (zK a).2, .inl (upd (h.2.1 a) j.toNatClampNeg (vp_nar .byte y))) := by rw [zE_101 hka, ← zU_upd]
            rw [← hE, zW_set (h := h) (h' := (h.1, zU h.2.1 a j.toNatClampNeg (vp_nar .byte y), h.2.2.1, h.2.2.2)) ha rfl (fun q hq' => zE_congr (zU_ne hq') rfl rfl)] at hP1
            exact zsz (h' := (h.1, zU h.2.1 a j.toNatClampNeg (vp_nar .byte y), h.2.2.1, h.2.2.2)) hcz ha rfl hP1 (fun hz1 => goH _ _ _ _ _ _ _ hrun ⟨hz1, hP1⟩ hS1)
          · split at hrun
            · rename_i hq1
              obtain ⟨ha, hka⟩ := zok_iff.mp hq1
              refine va_zast (D := g.1) (tys := ztys g) hx hb hK hRep.2 (zD g h) hS a 2 (by rw [zW_get ha, zE_102 hka]) rfl hq hd (fun H1 locs1 hP1 _ hS1 => ?_)
              have hE : zE g (h.1, zU h.2.1 a j.toNatClampNeg (vp_nar .boolean y), h.2.2.1, h.2.2.2) a = .inl (g.2.2.2.1, (zK a).2, .inl (upd (h.2.1 a) j.toNatClampNeg (vp_nar .boolean y))) := by rw [zE_102 hka, ← zU_upd]
              rw [← hE, zW_set (h := h) (h' := (h.1, zU h.2.1 a j.toNatClampNeg (vp_nar .boolean y), h.2.2.1, h.2.2.2)) ha rfl (fun q hq' => zE_congr (zU_ne hq') rfl rfl)] at hP1
              exact zsz (h' := (h.1, zU h.2.1 a j.toNatClampNeg (vp_nar .boolean y), h.2.2.1, h.2.2.2)) hcz ha rfl hP1 (fun hz1 => goH _ _ _ _ _ _ _ hrun ⟨hz1, hP1⟩ hS1)
            · exact (nn hrun).elim
        · exact (nn hrun).elim
      · exact (nn hrun).elim
    | aastore =>
      have hl : len = 1 := hlen
      subst hl
      simp only [zins] at hrun
      split at hrun
      · split at hrun
        · rename_i y j a st' hq
          have hqs : zqs g (h.1, h.2.1, zU h.2.2.1 a j.toNatClampNeg (some y), h.2.2.2) a = va_up (zqs g h a) j.toNatClampNeg (some (zs g + y)) := by
            funext t
            by_cases ht : t = j.toNatClampNeg <;> simp [zqs, zU, va_up, ht]
          rcases hq.1 with ⟨hq1, hq2⟩ | ⟨hq1, hq2⟩
          · obtain ⟨ha, hka⟩ := zok_iff.mp hq1
            obtain ⟨hy, hky⟩ := zok_iff.mp hq2
            refine va_astq (D := g.1) (tys := ztys g) hx hb hK hRep.2 (zD g h) hS a 3 y 7 (r := (RX7, TX7, 7)) (by rw [zW_get ha, zE_103 hka]) rfl (by rw [zW_get hy, zE_obj hky (by decide)]) rfl hq.2 hd (fun H1 locs1 hP1 _ hS1 => ?_)
            have hE : zE g (h.1, h.2.1, zU h.2.2.1 a j.toNatClampNeg (some y), h.2.2.2) a = .inl (g.2.2.2.2.1, (zK a).2, .inr (.inr (.inr (.inr (va_up (zqs g h a) j.toNatClampNeg (some (zs g + y))))))) := by rw [zE_103 hka, hqs]
            rw [← hE, zW_set (h := h) (h' := (h.1, h.2.1, zU h.2.2.1 a j.toNatClampNeg (some y), h.2.2.2)) ha rfl (fun q hq' => zE_congr rfl (zU_ne hq') rfl)] at hP1
            exact zsz (h' := (h.1, h.2.1, zU h.2.2.1 a j.toNatClampNeg (some y), h.2.2.2)) hcz ha rfl hP1 (fun hz1 => goH _ _ _ _ _ _ _ hrun ⟨hz1, hP1⟩ hS1)
          · obtain ⟨ha, hka⟩ := zok_iff.mp hq1
            obtain ⟨hy, hky⟩ := zok_iff.mp hq2
            refine va_astq (D := g.1) (tys := ztys g) hx hb hK hRep.2 (zD g h) hS a 4 y 3 (r := (RX3, TX3, 3)) (by rw [zW_get ha, zE_104 hka]) rfl (by rw [zW_get hy, zE_obj hky (by decide)]) rfl hq.2 hd (fun H1 locs1 hP1 _ hS1 => ?_)
            have hE : zE g (h.1, h.2.1, zU h.2.2.1 a j.toNatClampNeg (some y), h.2.2.2) a = .inl (g.2.2.2.2.2.1, (zK a).2, .inr (.inr (.inr (.inr (va_up (zqs g h a) j.toNatClampNeg (some (zs g + y))))))) := by rw [zE_104 hka, hqs]
            rw [← hE, zW_set (h := h) (h' := (h.1, h.2.1, zU h.2.2.1 a j.toNatClampNeg (some y), h.2.2.2)) ha rfl (fun q hq' => zE_congr rfl (zU_ne hq') rfl)] at hP1
            exact zsz (h' := (h.1, h.2.1, zU h.2.2.1 a j.toNatClampNeg (some y), h.2.2.2)) hcz ha rfl hP1 (fun hz1 => goH _ _ _ _ _ _ _ hrun ⟨hz1, hP1⟩ hS1)
        · exact (nn hrun).elim
      · exact (nn hrun).elim
    | new i =>
      have hl : len = 3 := hlen
      subst hl
      simp only [zins] at hrun
      split at hrun
      · rename_i ci hC'
        split at hrun
        · rename_i hq
          obtain ⟨r, hr, hlk⟩ := zC_spec hC'
          obtain ⟨h11, hck⟩ := zCK_of hr
          have hN' := zK_obj hq.2 hr
          have hn1 : h.1 + 1 ≤ x.2.1 := zrun_n sc n _ x hrun
          have hn2 := zSL_mono hn1
          have hn3 := zSL_succ h.1
          refine W.newcK hx hb hown (hts _ hlk) (hts _ hck.2.2.2.1) (hts _ hck.2.2.2.2) rfl hd (by omega) (by rw [hN']; omega) (hK.1 ci _ hr).2.1 rfl (fun H1 kC hkC e1 z1 o1 => ?_)
          have key : W p l0 e R sS m args below meth c H1 locs (cells + 1) (slots + (zK h.1).2) Q (F0 m (pc + 3) la ((Value.ref h.1 :: st).map (zv g))) := by
            refine goN _ _ _ _ _ _ hrun (fun _ _ => zRep_push (h := h) hRep rfl (fun q hq' => zE_congr (zCr_ne (by omega)) (zCr_ne (by omega)) (zCr_ne (by omega))) z1 o1 ?_) (zS_push hS z1 o1)
            have hE : zE g (h.1 + 1, zCr h.2.1 h.1 0, zCr h.2.2.1 h.1 none, zCr h.2.2.2 h.1 0) h.1 = .inr (ci, (List.range (zK h.1).2).map (zfv g (h.1 + 1, zCr h.2.1 h.1 0, zCr h.2.2.1 h.1 none, zCr h.2.2.2 h.1 0) ci h.1)) := zE_obj hq.2 h11
            rw [hE]
            refine ⟨_, hr, (u_born (zTy ci) hts hck.1 (hK.1 ci _ hr) hkC e1 hck.2.1).to (fun j hj => ?_)⟩
            rw [hN'] at hj
            rw [show vp_V ((List.range (zK h.1).2).map (zfv g (h.1 + 1, zCr h.2.1 h.1 0, zCr h.2.2.1 h.1 none, zCr h.2.2.2 h.1 0) ci h.1)) j = zfv g (h.1 + 1, zCr h.2.1 h.1 0, zCr h.2.2.1 h.1 none, zCr h.2.2.2 h.1 0) ci h.1 j by simp [vp_V, List.getD_eq_getElem?_getD, hj]]
            exact zdef rfl (zTy_ok ci h11 j) (by simp [zCr]) (by simp [zCr]) (by simp [zCr])
          rw [hN']
          have hsz' : H.size = zs g + h.1 := hRep.1
          rw [hsz']
          exact key
        · exact (nn hrun).elim
      · exact (nn hrun).elim
    | newarray t =>
      have hl : len = 2 := hlen
      subst hl
      simp only [zins] at hrun
      split at hrun
      · split at hrun
        · rename_i y st' hq
          obtain ⟨hy0, hy1, hy2, hq⟩ := hq
          have hn1 : h.1 + 1 ≤ x.2.1 := zrun_n sc n _ x hrun
          have hn2 := zSL_mono hn1
          have hn3 := zSL_succ h.1
          have arr : ∀ (ty : FieldType) (cA : ClassId) (t0 : Nat), newarray.typeOf t = ty → (ztys g)[t0]? = some (cA, ty) → (∀ U : State, ∀ c1, va_RA U c1 ty → U.vm.findClass ("[" ++ ty.toString) = some c1) → Cond.arrayClass ty ∈ zTB → componentBytes ty ≤ 8 → (fun _ : Nat => defaultValue ty) = (fun _ => .int 0) → zE g (h.1 + 1, zCr h.2.1 h.1 0, zCr h.2.2.1 h.1 none, zCr h.2.2.2 h.1 0) h.1 = .inl (cA, (zK h.1).2, .inl (fun _ => 0)) → W p l0 e R sS m args below meth c H locs cells slots Q (F0 m pc la ((Value.int y :: st').map (zv g))) := by
            intro ty cA t0 hty ht hRA hw hcb hdv hE
            subst hty
            refine va_newaK hx hb (hts _ hw) rfl hd rfl hy0 hy1 (by have := Nat.mul_le_mul hy2 hcb; omega) (by omega) (by omega) rfl (fun H1 cA' e1 z1 o1 hAr hNm => ?_)
            have hcA : cA' = cA := Option.some.inj (hNm.symm.trans (hRA sS _ (hK.2 t0 _ ht).2))
            subst hcA
            have key : W p l0 e R sS m args below meth c H1 locs (cells + 1) (slots + (zK h.1).2) Q (F0 m (pc + 2) la ((Value.ref h.1 :: st').map (zv g))) := by
              refine goN _ _ _ _ _ _ hrun (fun _ _ => zRep_push (h := h) hRep rfl (fun q hq' => zE_congr (zCr_ne (by omega)) (zCr_ne (by omega)) (zCr_ne (by omega))) z1 o1 ?_) (zS_push hS z1 o1)
              rw [hE]
              show H1[H.size]? = some (vp_cell _ _)
              rw [vp_cell_i]
              rw [hdv] at e1
              exact e1
            have hsz' : H.size = zs g + h.1 := hRep.1
            rw [hsz']
            exact key
          rcases hq with ⟨rfl, hk⟩ | ⟨rfl, hk⟩ | ⟨rfl, hk⟩
          · exact arr .int _ 0 rfl rfl (fun U c1 q => q) zaci (by decide) rfl (by rw [zE_100 hk]; simp only [zCr_eq])
          · exact arr .byte _ 1 rfl rfl (fun U c1 q => q) zacb (by decide) rfl (by rw [zE_101 hk]; simp only [zCr_eq])
          · exact arr .boolean _ 2 rfl rfl (fun U c1 q => q) zacz (by decide) rfl (by rw [zE_102 hk]; simp only [zCr_eq])
        · exact (nn hrun).elim
      · exact (nn hrun).elim
    | anewarray i =>
      have hl : len = 3 := hlen
      subst hl
      simp only [zins] at hrun
      split at hrun
      · rename_i ci y st' hC'
        split at hrun
        · rename_i hq
          obtain ⟨hy0, hy1, hy2, hq⟩ := hq
          obtain ⟨r, hr, hlk⟩ := zC_spec hC'
          have hn1 : h.1 + 1 ≤ x.2.1 := zrun_n sc n _ x hrun
          have hn2 := zSL_mono hn1
          have hn3 := zSL_succ h.1
          have arr : ∀ (C : String) (cA : ClassId) (t0 : Nat), r.1 = C → (ztys g)[t0]? = some (cA, .object C) → va_AO C sS → zE g (h.1 + 1, zCr h.2.1 h.1 0, zCr h.2.2.1 h.1 none, zCr h.2.2.2 h.1 0) h.1 = .inl (cA, (zK h.1).2, .inr (.inr (.inr (.inr (fun _ => none))))) → W p l0 e R sS m args below meth c H locs cells slots Q (F0 m pc la ((Value.int y :: st').map (zv g))) := by
            intro C cA t0 hC1 ht hAO hE
            subst hC1
            refine W.anew hx hb hown (hts _ hlk) (va_AO.use hAO) rfl hd rfl hy0 (by rw [hy1]; omega) (by omega) (by rw [hy1]; omega) (fun cA' kA comp f1 f2 f3 f4 => ?_)
            obtain ⟨kA2, comp2, g1, g2, g3, g4⟩ := (hK.2 t0 _ ht).2
            have hcA : cA' = cA := Option.some.inj (f1.symm.trans g4)
            subst hcA
            rw [hy1]
            have z1 : (H.push ({ cls := cA', slots := Array.replicate (zK h.1).2 .null, vm := .none } : Cell)).size = H.size + 1 := Array.size_push _
            have o1 : ∀ q : Nat, q < H.size → (H.push ({ cls := cA', slots := Array.replicate (zK h.1).2 .null, vm := .none } : Cell))[q]? = H[q]? := fun q hq => by rw [Array.getElem?_push, if_neg (Nat.ne_of_lt hq)]
            have e1 : (H.push ({ cls := cA', slots := Array.replicate (zK h.1).2 .null, vm := .none } : Cell))[H.size]? = some (arrV cA' (zK h.1).2 (fun _ => .null)) := by rw [Array.getElem?_push_size, ← arrV_new]
            generalize H.push ({ cls := cA', slots := Array.replicate (zK h.1).2 .null, vm := .none } : Cell) = H1 at z1 o1 e1 ⊢
            have key : W p l0 e R sS m args below meth c H1 locs (cells + 1) (slots + (zK h.1).2) Q (F0 m (pc + 3) la ((Value.ref h.1 :: st').map (zv g))) := by
              refine goN _ _ _ _ _ _ hrun (fun _ _ => zRep_push (h := h) hRep rfl (fun q hq' => zE_congr (zCr_ne (by omega)) (zCr_ne (by omega)) (zCr_ne (by omega))) z1 o1 ?_) (zS_push hS z1 o1)
              rw [hE]
              show H1[H.size]? = some (vp_cell _ _)
              rw [vp_cell_q]
              exact e1
            have hsz' : H.size = zs g + h.1 := hRep.1
            rw [hsz']
            exact key
          have hqs : zqs g (h.1 + 1, zCr h.2.1 h.1 0, zCr h.2.2.1 h.1 none, zCr h.2.2.2 h.1 0) h.1 = fun _ => none := by funext t; simp [zqs, zCr]
          rcases hq with ⟨rfl, hk⟩ | ⟨rfl, hk⟩
          · exact arr "HarpFences$Stand" _ 3 (by cases hr; rfl) rfl hN.2.1 (by rw [zE_103 hk, hqs])
          · exact arr "HarpFences$Image" _ 4 (by cases hr; rfl) rfl hN.2.2 (by rw [zE_104 hk, hqs])
        · exact (nn hrun).elim
      · exact (nn hrun).elim
    | invokevirtual i =>
      have hl : len = 3 := hlen
      subst hl
      simp only [zins] at hrun
      split at hrun
      · rename_i k' na hmr
        obtain ⟨N, hNS, hlk, hinst, hsel, h11⟩ := zM0 hmr
        split at hrun
        · rename_i a rest hdr
          split at hrun
          case isFalse => exact (nn hrun).elim
          rename_i hq
          obtain ⟨hq, hlen0⟩ := hq
          have hlen' : ((st.take na).reverse.map (zv g)).length = na := by rw [List.length_map, List.length_reverse]; exact hlen0
          rw [hNS.1] at hq
          simp only [Option.map_some, Option.some.injEq] at hq
          obtain ⟨ha, hka⟩ := zok_iff.mp hq
          have hrecv : ∃ cellB : Cell, H[zs g + a]? = some cellB ∧ cellB.vm.isStatics = false ∧ sS.vm.findClass N.1.cls = some cellB.cls := by
            obtain ⟨r, hr, hrn⟩ := zCl_nm h11
            have := va_recv hK hRep.2 (q0 := a) hr (by rw [zW_get ha, zE_obj hka h11])
            rw [hrn, ← hNS.2.2.2.2.2.2.2] at this
            exact this
          obtain ⟨hzM, hk185, hcd, hini, hpl, hne, hpar, hcls⟩ := hNS
          unfold zcall at hrun
          rw [hzM] at hrun
          dsimp only at hrun
          split at hrun
          case isFalse => exact (nn hrun).elim
          rename_i hq
          obtain ⟨hq1, hq2, hq3, hq4, hq5⟩ := hq
          simp only [zstp] at hrun
          obtain ⟨y1, h1, h2⟩ := Option.bind_eq_some_iff.mp hrun
          have hmet := zmet (l0 := l0) g hk185 hzM hpl hcls hq5 hq4 (ih _ _ h1)
          have hn1 : h.1 ≤ y1.2.1 := zrun_n sc n _ _ h1
          have hn2 : y1.2.1 ≤ x.2.1 := zrun_n sc n _ _ h2
          have hs1 := zSL_mono hn1
          have hs2 := zSL_mono hn2
          have hrk := zrun_k sc n _ _ N h1 hzM
          have hfb : FrameBlind (zPc g sc (Value.ref a :: (st.take na).reverse) h) := fun a U gg mk q => ⟨q.1, q.2.1, va_K.moved (u := U) (U := U.calling gg mk a) (Vm.Alike.refl U.vm) q.2.2.1, zNw_vm (s := U) (U := U.calling gg mk a) rfl q.2.2.2.1, va_X.moved (u := U) (U := U.calling gg mk a) (Vm.Alike.refl U.vm) q.2.2.2.2.1, q.2.2.2.2.2⟩
          have hpre : ∀ U : State, U.heap = H → sS.WarmedH U.vm → zPc g sc (Value.ref a :: (st.take na).reverse) h ((Value.ref a :: (st.take na).reverse).map (zv g)).toArray U := fun U hU hW => ⟨rfl, by rw [hU]; exact hRep, va_K.moved hW.alike hK, zNw_warm hW hN, by rw [hU]; exact (va_X.moved hW.alike hX.1).kept (hS.2.1 _ hbs hbA), hX.2⟩
          have hroom : (zrm N (y1.2.1 - h.1) (zSL y1.2.1 - zSL h.1)).frames + 1 ≤ R.frames ∧ 8 + (N.2.2.1 + 11) + (zrm N (y1.2.1 - h.1) (zSL y1.2.1 - zSL h.1)).locals ≤ R.locals := ⟨Nat.le_trans hq1 hfr, Nat.le_trans hq2 hlo⟩
          have hW8 : 2 * (F0 m pc la (st.map (zv g))).monitorRoom + ((rest.map (zv g)).map fun v => v.category).sum ≤ 8 := by
            rw [zcat_map]
            show 2 * 0 + _ ≤ 8
            omega
          have hfit : cells + (y1.2.1 - h.1) ≤ R.cells ∧ slots + (zSL y1.2.1 - zSL h.1) ≤ R.slots := ⟨by omega, by omega⟩
          have after : ∀ (t : State) (H1 : Heap) (locs1 : List Loc), t.heap = H1 → zB g y1.2 () t → va_S (zA g) sS.heap H1 locs1 → W p l0 e R sS m args below meth c H1 locs1 (cells + (y1.2.1 - h.1)) (slots + (zSL y1.2.1 - zSL h.1)) Q (F0 m (pc + 3) la ((if N.2.2.2.1 = none then rest else y1.1 :: rest).map (zv g))) := by
            intro t H1 locs1 ht hB hS1
            have hB : zRep g y1.2 t.heap := hB
            rw [ht] at hB
            refine ih _ _ h2 M g H1 locs1 (cells + (y1.2.1 - h.1)) (slots + (zSL y1.2.1 - zSL h.1)) Q la hM hC hB hS1 hL (by dsimp only; omega) (by dsimp only; omega) (by dsimp only; omega) (fun pcR lsR H2 locs2 q1 q2 q3 => W.cs ?_ ?_ (hret pcR lsR H2 locs2 q1 q2 q3))
            · dsimp only; omega
            · dsimp only; omega
          have hrun2 : va_Run p l0 e R sS m args below meth c H locs cells slots (y1.2.1 - h.1) (zSL y1.2.1 - zSL h.1) (F0 m pc la (st.map (zv g))) (rest.map (zv g)) (zQc g y1 (Value.ref (zs g + a) :: (st.take na).reverse.map (zv g)).toArray) (zA g) :=
            va_runV (C := N.1.cls) ⟨hx, hb, hml, hown, hts⟩ hmet (cwV na hts (fun w hw => by
              rcases List.mem_append.mp hw with hw | hw
              · refine ⟨?_, ?_⟩
                · simp only [List.mem_cons, List.not_mem_nil, or_false] at hw
                  rcases hw with rfl | rfl | rfl | rfl
                  · exact hlk
                  · exact hinst
                  · exact hsel
                  · exact hini
                · simp only [List.mem_cons, List.not_mem_nil, or_false] at hw
                  rcases hw with rfl | rfl | rfl | rfl
                  · exact good_of_word (zgood _ hlk)
                  · exact good_of_word (zgood _ hinst)
                  · exact good_of_word (zgood _ hsel)
                  · exact good_of_word (zgood _ hini)
              · exact zgoodIn hcd w hw) rfl rfl rfl ⟨rfl, hne.1, hne.2, hpar⟩ hroom) ⟨hfb, hrecv, hpre⟩ rfl hlen' hL.1 (zSpl g hdr) hW8 hd hfit
          obtain ⟨v, hy⟩ := y1
          rcases hrk with ⟨r, hr1, hr2⟩ | ⟨r, hr1, hr2⟩ | ⟨hr1, hr2⟩
          · dsimp only at hr1
            subst hr1
            refine va_calli (a := #[]) (post := fun r' (_ : Unit) => r' = r) hrun2 hS (fun q _ h => h) (fun q h => h) (fun r' u t H1 locs1 ht hvm hw hB hz1 hk1 hS1 => ?_)
            subst hw
            have := after t H1 locs1 ht hB hS1
            rw [if_neg hr2] at this
            exact this
          · dsimp only at hr1
            subst hr1
            refine va_calll (a := #[]) (post := fun r' (_ : Unit) => r' = r) hrun2 hS (fun q _ h => h) (fun q h => h) (fun r' u t H1 locs1 ht hvm hw hB hz1 hk1 hS1 => ?_)
            subst hw
            have := after t H1 locs1 ht hB hS1
            rw [if_neg hr2] at this
            exact this
          · dsimp only at hr1
            subst hr1
            refine va_callv (a := #[]) (post := fun (_ : Unit) => True) hrun2 hS (fun q _ h => h) (fun q h => h) (fun u t H1 locs1 ht hvm hw hB hz1 hk1 hS1 => ?_)
            have := after t H1 locs1 ht hB hS1
            rw [if_pos hr2] at this
            exact this
        · exact (nn hrun).elim
      · exact (nn hrun).elim
    | invokespecial i =>
      have hl : len = 3 := hlen
      subst hl
      simp only [zins] at hrun
      split at hrun
      · rename_i k' na hmr
        split at hrun
        · split at hrun
          · rename_i a rest hq
            refine W.objInit hx hb hown (hts _ (zMk hmr (fun q hq => hq))) (hts _ zoi1) (hts _ zoi2) rfl (hL.1.trans hml.symm) rfl hd (by omega) ?_ (go _ _ hrun)
            rw [zcat_map]
            show 2 * 0 + _ + 12 ≤ _
            omega
          · exact (nn hrun).elim
        · exact (nn hrun).elim
      · rename_i k' na hmr
        obtain ⟨N, hNS, hlk, hinst, hinn⟩ := zM2 hmr
        split at hrun
        · rename_i a rest hdr
          split at hrun
          case isFalse => exact (nn hrun).elim
          rename_i hlen0
          have hlen' : ((st.take na).reverse.map (zv g)).length = na := by rw [List.length_map, List.length_reverse]; exact hlen0
          obtain ⟨hzM, hk185, hcd, hini, hpl, hne, hpar, hcls⟩ := hNS
          unfold zcall at hrun
          rw [hzM] at hrun
          dsimp only at hrun
          split at hrun
          case isFalse => exact (nn hrun).elim
          rename_i hq
          obtain ⟨hq1, hq2, hq3, hq4, hq5⟩ := hq
          simp only [zstp] at hrun
          obtain ⟨y1, h1, h2⟩ := Option.bind_eq_some_iff.mp hrun
          have hmet := zmet (l0 := l0) g hk185 hzM hpl hcls hq5 hq4 (ih _ _ h1)
          have hn1 : h.1 ≤ y1.2.1 := zrun_n sc n _ _ h1
          have hn2 : y1.2.1 ≤ x.2.1 := zrun_n sc n _ _ h2
          have hs1 := zSL_mono hn1
          have hs2 := zSL_mono hn2
          have hrk := zrun_k sc n _ _ N h1 hzM
          have hfb : FrameBlind (zPc g sc (Value.ref a :: (st.take na).reverse) h) := fun a U gg mk q => ⟨q.1, q.2.1, va_K.moved (u := U) (U := U.calling gg mk a) (Vm.Alike.refl U.vm) q.2.2.1, zNw_vm (s := U) (U := U.calling gg mk a) rfl q.2.2.2.1, va_X.moved (u := U) (U := U.calling gg mk a) (Vm.Alike.refl U.vm) q.2.2.2.2.1, q.2.2.2.2.2⟩
          have hpre : ∀ U : State, U.heap = H → sS.WarmedH U.vm → zPc g sc (Value.ref a :: (st.take na).reverse) h ((Value.ref a :: (st.take na).reverse).map (zv g)).toArray U := fun U hU hW => ⟨rfl, by rw [hU]; exact hRep, va_K.moved hW.alike hK, zNw_warm hW hN, by rw [hU]; exact (va_X.moved hW.alike hX.1).kept (hS.2.1 _ hbs hbA), hX.2⟩
          have hroom : (zrm N (y1.2.1 - h.1) (zSL y1.2.1 - zSL h.1)).frames + 1 ≤ R.frames ∧ 8 + (N.2.2.1 + 11) + (zrm N (y1.2.1 - h.1) (zSL y1.2.1 - zSL h.1)).locals ≤ R.locals := ⟨Nat.le_trans hq1 hfr, Nat.le_trans hq2 hlo⟩
          have hW8 : 2 * (F0 m pc la (st.map (zv g))).monitorRoom + ((rest.map (zv g)).map fun v => v.category).sum ≤ 8 := by
            rw [zcat_map]
            show 2 * 0 + _ ≤ 8
            omega
          have hfit : cells + (y1.2.1 - h.1) ≤ R.cells ∧ slots + (zSL y1.2.1 - zSL h.1) ≤ R.slots := ⟨by omega, by omega⟩
          have after : ∀ (t : State) (H1 : Heap) (locs1 : List Loc), t.heap = H1 → zB g y1.2 () t → va_S (zA g) sS.heap H1 locs1 → W p l0 e R sS m args below meth c H1 locs1 (cells + (y1.2.1 - h.1)) (slots + (zSL y1.2.1 - zSL h.1)) Q (F0 m (pc + 3) la ((if N.2.2.2.1 = none then rest else y1.1 :: rest).map (zv g))) := by
            intro t H1 locs1 ht hB hS1
            have hB : zRep g y1.2 t.heap := hB
            rw [ht] at hB
            refine ih _ _ h2 M g H1 locs1 (cells + (y1.2.1 - h.1)) (slots + (zSL y1.2.1 - zSL h.1)) Q la hM hC hB hS1 hL (by dsimp only; omega) (by dsimp only; omega) (by dsimp only; omega) (fun pcR lsR H2 locs2 q1 q2 q3 => W.cs ?_ ?_ (hret pcR lsR H2 locs2 q1 q2 q3))
            · dsimp only; omega
            · dsimp only; omega
          obtain ⟨hinit, hnone⟩ := hinn
          have hrun2 : va_Run p l0 e R sS m args below meth c H locs cells slots (y1.2.1 - h.1) (zSL y1.2.1 - zSL h.1) (F0 m pc la (st.map (zv g))) (rest.map (zv g)) (zQc g y1 (Value.ref (zs g + a) :: (st.take na).reverse.map (zv g)).toArray) (zA g) :=
            va_runI ⟨hx, hb, hml, hown, hts⟩ hmet ⟨callB_of na hts (zgoodIn hcd) (by unfold zws; rw [hnone]) rfl rfl (hts _ hini) (hts _ hlk) ⟨hne.1, hne.2, hpar⟩ hroom, hinit, hts _ hinst⟩ ⟨hfb, hpre⟩ rfl hlen' hL.1 (zSpl g hdr) hW8 hd hfit
          obtain ⟨v, hy⟩ := y1
          rcases hrk with ⟨r, hr1, hr2⟩ | ⟨r, hr1, hr2⟩ | ⟨hr1, hr2⟩
          · dsimp only at hr1
            subst hr1
            refine va_calli (a := #[]) (post := fun r' (_ : Unit) => r' = r) hrun2 hS (fun q _ h => h) (fun q h => h) (fun r' u t H1 locs1 ht hvm hw hB hz1 hk1 hS1 => ?_)
            subst hw
            have := after t H1 locs1 ht hB hS1
            rw [if_neg hr2] at this
            exact this
          · dsimp only at hr1
            subst hr1
            refine va_calll (a := #[]) (post := fun r' (_ : Unit) => r' = r) hrun2 hS (fun q _ h => h) (fun q h => h) (fun r' u t H1 locs1 ht hvm hw hB hz1 hk1 hS1 => ?_)
            subst hw
            have := after t H1 locs1 ht hB hS1
            rw [if_neg hr2] at this
            exact this
          · dsimp only at hr1
            subst hr1
            refine va_callv (a := #[]) (post := fun (_ : Unit) => True) hrun2 hS (fun q _ h => h) (fun q h => h) (fun u t H1 locs1 ht hvm hw hB hz1 hk1 hS1 => ?_)
            have := after t H1 locs1 ht hB hS1
            rw [if_pos hr2] at this
            exact this
        · exact (nn hrun).elim
      · rename_i k' na hmr
        obtain ⟨N, hNS, hlk, hinst, hinn⟩ := zM3 hmr
        split at hrun
        · rename_i a rest hdr
          split at hrun
          case isFalse => exact (nn hrun).elim
          rename_i hlen0
          have hlen' : ((st.take na).reverse.map (zv g)).length = na := by rw [List.length_map, List.length_reverse]; exact hlen0
          obtain ⟨hzM, hk185, hcd, hini, hpl, hne, hpar, hcls⟩ := hNS
          unfold zcall at hrun
          rw [hzM] at hrun
          dsimp only at hrun
          split at hrun
          case isFalse => exact (nn hrun).elim
          rename_i hq
          obtain ⟨hq1, hq2, hq3, hq4, hq5⟩ := hq
          simp only [zstp] at hrun
          obtain ⟨y1, h1, h2⟩ := Option.bind_eq_some_iff.mp hrun
          have hmet := zmet (l0 := l0) g hk185 hzM hpl hcls hq5 hq4 (ih _ _ h1)
          have hn1 : h.1 ≤ y1.2.1 := zrun_n sc n _ _ h1
          have hn2 : y1.2.1 ≤ x.2.1 := zrun_n sc n _ _ h2
          have hs1 := zSL_mono hn1
          have hs2 := zSL_mono hn2
          have hrk := zrun_k sc n _ _ N h1 hzM
          have hfb : FrameBlind (zPc g sc (Value.ref a :: (st.take na).reverse) h) := fun a U gg mk q => ⟨q.1, q.2.1, va_K.moved (u := U) (U := U.calling gg mk a) (Vm.Alike.refl U.vm) q.2.2.1, zNw_vm (s := U) (U := U.calling gg mk a) rfl q.2.2.2.1, va_X.moved (u := U) (U := U.calling gg mk a) (Vm.Alike.refl U.vm) q.2.2.2.2.1, q.2.2.2.2.2⟩
          have hpre : ∀ U : State, U.heap = H → sS.WarmedH U.vm → zPc g sc (Value.ref a :: (st.take na).reverse) h ((Value.ref a :: (st.take na).reverse).map (zv g)).toArray U := fun U hU hW => ⟨rfl, by rw [hU]; exact hRep, va_K.moved hW.alike hK, zNw_warm hW hN, by rw [hU]; exact (va_X.moved hW.alike hX.1).kept (hS.2.1 _ hbs hbA), hX.2⟩
          have hroom : (zrm N (y1.2.1 - h.1) (zSL y1.2.1 - zSL h.1)).frames + 1 ≤ R.frames ∧ 8 + (N.2.2.1 + 11) + (zrm N (y1.2.1 - h.1) (zSL y1.2.1 - zSL h.1)).locals ≤ R.locals := ⟨Nat.le_trans hq1 hfr, Nat.le_trans hq2 hlo⟩
          have hW8 : 2 * (F0 m pc la (st.map (zv g))).monitorRoom + ((rest.map (zv g)).map fun v => v.category).sum ≤ 8 := by
            rw [zcat_map]
            show 2 * 0 + _ ≤ 8
            omega
          have hfit : cells + (y1.2.1 - h.1) ≤ R.cells ∧ slots + (zSL y1.2.1 - zSL h.1) ≤ R.slots := ⟨by omega, by omega⟩
          have after : ∀ (t : State) (H1 : Heap) (locs1 : List Loc), t.heap = H1 → zB g y1.2 () t → va_S (zA g) sS.heap H1 locs1 → W p l0 e R sS m args below meth c H1 locs1 (cells + (y1.2.1 - h.1)) (slots + (zSL y1.2.1 - zSL h.1)) Q (F0 m (pc + 3) la ((if N.2.2.2.1 = none then rest else y1.1 :: rest).map (zv g))) := by
            intro t H1 locs1 ht hB hS1
            have hB : zRep g y1.2 t.heap := hB
            rw [ht] at hB
            refine ih _ _ h2 M g H1 locs1 (cells + (y1.2.1 - h.1)) (slots + (zSL y1.2.1 - zSL h.1)) Q la hM hC hB hS1 hL (by dsimp only; omega) (by dsimp only; omega) (by dsimp only; omega) (fun pcR lsR H2 locs2 q1 q2 q3 => W.cs ?_ ?_ (hret pcR lsR H2 locs2 q1 q2 q3))
            · dsimp only; omega
            · dsimp only; omega
          obtain ⟨hinit, hnone⟩ := hinn
          have hrun2 : va_Run p l0 e R sS m args below meth c H locs cells slots (y1.2.1 - h.1) (zSL y1.2.1 - zSL h.1) (F0 m pc la (st.map (zv g))) (rest.map (zv g)) (zQc g y1 (Value.ref (zs g + a) :: (st.take na).reverse.map (zv g)).toArray) (zA g) :=
            va_runIN ⟨hx, hb, hml, hown, hts⟩ hmet ⟨va_cnB na hts (zgoodIn hcd) (by unfold zws; rw [hnone]) rfl rfl (hN.1 _ hlk) (hts _ hini) ⟨hne.1, hne.2, hpar⟩ hroom, hinit, hts _ hinst⟩ ⟨hfb, hpre⟩ rfl hlen' hL.1 (zSpl g hdr) hW8 hd hfit
          obtain ⟨v, hy⟩ := y1
          rcases hrk with ⟨r, hr1, hr2⟩ | ⟨r, hr1, hr2⟩ | ⟨hr1, hr2⟩
          · dsimp only at hr1
            subst hr1
            refine va_calli (a := #[]) (post := fun r' (_ : Unit) => r' = r) hrun2 hS (fun q _ h => h) (fun q h => h) (fun r' u t H1 locs1 ht hvm hw hB hz1 hk1 hS1 => ?_)
            subst hw
            have := after t H1 locs1 ht hB hS1
            rw [if_neg hr2] at this
            exact this
          · dsimp only at hr1
            subst hr1
            refine va_calll (a := #[]) (post := fun r' (_ : Unit) => r' = r) hrun2 hS (fun q _ h => h) (fun q h => h) (fun r' u t H1 locs1 ht hvm hw hB hz1 hk1 hS1 => ?_)
            subst hw
            have := after t H1 locs1 ht hB hS1
            rw [if_neg hr2] at this
            exact this
          · dsimp only at hr1
            subst hr1
            refine va_callv (a := #[]) (post := fun (_ : Unit) => True) hrun2 hS (fun q _ h => h) (fun q h => h) (fun u t H1 locs1 ht hvm hw hB hz1 hk1 hS1 => ?_)
            have := after t H1 locs1 ht hB hS1
            rw [if_pos hr2] at this
            exact this
        · exact (nn hrun).elim
      · exact (nn hrun).elim
    | invokestatic i =>
      have hl : len = 3 := hlen
      subst hl
      simp only [zins] at hrun
      split at hrun
      · rename_i k' na hmr
        split at hrun
        · split at hrun
          · rename_i hq
            exact va_mmax hx hb (hml.trans hL.1.symm) hown (hts _ (zMk hmr (fun q hq => hq))) (hts _ zmx1) (hts _ zmi) (hts _ zmx2) (by omega) (by rw [zcat_map]; omega) (by omega) (by omega) hd (go _ _ hrun)
          · exact (nn hrun).elim
        · exact (nn hrun).elim
      · rename_i k' na hmr
        split at hrun
        · split at hrun
          · rename_i hq
            exact va_mmin hx hb (hml.trans hL.1.symm) hown (hts _ (zMk hmr (fun q hq => hq))) (hts _ zmn1) (hts _ zmi) (hts _ zmn2) (by omega) (by rw [zcat_map]; omega) (by omega) (by omega) hd (go _ _ hrun)
          · exact (nn hrun).elim
        · exact (nn hrun).elim
      · rename_i k' na hmr
        split at hrun
        · split at hrun
          · rename_i hq
            exact va_mabs hx hb (hml.trans hL.1.symm) hown (hts _ (zMk hmr (fun q hq => hq))) (hts _ zma1) (hts _ zmi) (hts _ zma2) (by omega) (by rw [zcat_map]; omega) (by omega) (by omega) hd (go _ _ hrun)
          · exact (nn hrun).elim
        · exact (nn hrun).elim
      · rename_i k' na hmr
        split at hrun
        · split at hrun
          · rename_i cn dp a sp a0 rest hq
            obtain ⟨⟨hq1, hq2, hq3⟩, ho1, ho0, g1, g2, g3, g4, g5⟩ := hq
            obtain ⟨ha, hka⟩ := zok_iff.mp ho1
            obtain ⟨ha0, hka0⟩ := zok_iff.mp ho0
            refine va_copyi (D := g.1) (tys := ztys g) hx hb (hml.trans hL.1.symm) hown (hts _ (zMk hmr (fun q hq => hq))) (hts _ zac1) (hts _ zac2) (hts _ zac3) hK hRep.2 (zD g h) hS a0 a 0 0 (by rw [zW_get ha0, zE_100 hka0]) (by rw [zW_get ha, zE_100 hka]) rfl rfl rfl g1 g2 g3 g4 g5 (fun _ _ => rfl) (by omega) ?_ hd (fun H1 locs1 hP1 _ hS1 => ?_)
            · rw [zcat_map, show nativeFrameWords "java/lang/System" "arraycopy" 5 + 11 = 18 from by decide +kernel]
              omega
            · have hE : zE g (h.1, zCp h.2.1 a0 a sp.toNatClampNeg dp.toNatClampNeg cn.toNatClampNeg, h.2.2.1, h.2.2.2) a = .inl (g.2.1, (zK a).2, .inl (va_cpy (h.2.1 a0) (h.2.1 a) sp.toNatClampNeg dp.toNatClampNeg cn.toNatClampNeg)) := by rw [zE_100 hka]; dsimp only; rw [zCp_eq]
              rw [← hE, zW_set (h := h) (h' := (h.1, zCp h.2.1 a0 a sp.toNatClampNeg dp.toNatClampNeg cn.toNatClampNeg, h.2.2.1, h.2.2.2)) ha rfl (fun q hq' => zE_congr (zCp_ne hq') rfl rfl)] at hP1
              exact zsz (h' := (h.1, zCp h.2.1 a0 a sp.toNatClampNeg dp.toNatClampNeg cn.toNatClampNeg, h.2.2.1, h.2.2.2)) hcz ha rfl hP1 (fun hz1 => goH _ _ _ _ _ _ _ hrun ⟨hz1, hP1⟩ hS1)
          · exact (nn hrun).elim
        · exact (nn hrun).elim
      · rename_i k' na hmr
        obtain ⟨N, hNS, hlk, hstt⟩ := zM1 hmr
        split at hrun
        · rename_i hlen0
          have hlen' : ((st.take na).reverse.map (zv g)).length = na := by rw [List.length_map, List.length_reverse]; exact hlen0
          have hspl : st.map (zv g) = ((st.take na).reverse.map (zv g)).reverse ++ (st.drop na).map (zv g) := by
            rw [← List.map_reverse, List.reverse_reverse, ← List.map_append, List.take_append_drop]
          obtain ⟨hzM, hk185, hcd, hini, hpl, hne, hpar, hcls⟩ := hNS
          unfold zcall at hrun
          rw [hzM] at hrun
          dsimp only at hrun
          split at hrun
          case isFalse => exact (nn hrun).elim
          rename_i hq
          obtain ⟨hq1, hq2, hq3, hq4, hq5⟩ := hq
          simp only [zstp] at hrun
          obtain ⟨y1, h1, h2⟩ := Option.bind_eq_some_iff.mp hrun
          have hmet := zmet (l0 := l0) g hk185 hzM hpl hcls hq5 hq4 (ih _ _ h1)
          have hn1 : h.1 ≤ y1.2.1 := zrun_n sc n _ _ h1
          have hn2 : y1.2.1 ≤ x.2.1 := zrun_n sc n _ _ h2
          have hs1 := zSL_mono hn1
          have hs2 := zSL_mono hn2
          have hrk := zrun_k sc n _ _ N h1 hzM
          have hfb : FrameBlind (zPc g sc ((st.take na).reverse) h) := fun a U gg mk q => ⟨q.1, q.2.1, va_K.moved (u := U) (U := U.calling gg mk a) (Vm.Alike.refl U.vm) q.2.2.1, zNw_vm (s := U) (U := U.calling gg mk a) rfl q.2.2.2.1, va_X.moved (u := U) (U := U.calling gg mk a) (Vm.Alike.refl U.vm) q.2.2.2.2.1, q.2.2.2.2.2⟩
          have hpre : ∀ U : State, U.heap = H → sS.WarmedH U.vm → zPc g sc ((st.take na).reverse) h (((st.take na).reverse).map (zv g)).toArray U := fun U hU hW => ⟨rfl, by rw [hU]; exact hRep, va_K.moved hW.alike hK, zNw_warm hW hN, by rw [hU]; exact (va_X.moved hW.alike hX.1).kept (hS.2.1 _ hbs hbA), hX.2⟩
          have hroom : (zrm N (y1.2.1 - h.1) (zSL y1.2.1 - zSL h.1)).frames + 1 ≤ R.frames ∧ 8 + (N.2.2.1 + 11) + (zrm N (y1.2.1 - h.1) (zSL y1.2.1 - zSL h.1)).locals ≤ R.locals := ⟨Nat.le_trans hq1 hfr, Nat.le_trans hq2 hlo⟩
          have hW8 : 2 * (F0 m pc la (st.map (zv g))).monitorRoom + (((st.drop na).map (zv g)).map fun v => v.category).sum ≤ 8 := by
            rw [zcat_map]
            show 2 * 0 + _ ≤ 8
            omega
          have hfit : cells + (y1.2.1 - h.1) ≤ R.cells ∧ slots + (zSL y1.2.1 - zSL h.1) ≤ R.slots := ⟨by omega, by omega⟩
          have after : ∀ (t : State) (H1 : Heap) (locs1 : List Loc), t.heap = H1 → zB g y1.2 () t → va_S (zA g) sS.heap H1 locs1 → W p l0 e R sS m args below meth c H1 locs1 (cells + (y1.2.1 - h.1)) (slots + (zSL y1.2.1 - zSL h.1)) Q (F0 m (pc + 3) la ((if N.2.2.2.1 = none then (st.drop na) else y1.1 :: (st.drop na)).map (zv g))) := by
            intro t H1 locs1 ht hB hS1
            have hB : zRep g y1.2 t.heap := hB
            rw [ht] at hB
            refine ih _ _ h2 M g H1 locs1 (cells + (y1.2.1 - h.1)) (slots + (zSL y1.2.1 - zSL h.1)) Q la hM hC hB hS1 hL (by dsimp only; omega) (by dsimp only; omega) (by dsimp only; omega) (fun pcR lsR H2 locs2 q1 q2 q3 => W.cs ?_ ?_ (hret pcR lsR H2 locs2 q1 q2 q3))
            · dsimp only; omega
            · dsimp only; omega
          have hrun2 : va_Run p l0 e R sS m args below meth c H locs cells slots (y1.2.1 - h.1) (zSL y1.2.1 - zSL h.1) (F0 m pc la (st.map (zv g))) ((st.drop na).map (zv g)) (zQc g y1 (((st.take na).reverse.map (zv g)).toArray)) (zA g) :=
            va_runS ⟨hx, hb, hml, hown, hts⟩ hmet ⟨callB_of na hts (zgoodIn hcd) rfl rfl rfl (hts _ hini) (hts _ hlk) ⟨hne.1, hne.2, hpar⟩ hroom, hts _ hstt⟩ ⟨hfb, hpre⟩ rfl hlen' hL.1 hspl hW8 hd hfit
          obtain ⟨v, hy⟩ := y1
          rcases hrk with ⟨r, hr1, hr2⟩ | ⟨r, hr1, hr2⟩ | ⟨hr1, hr2⟩
          · dsimp only at hr1
            subst hr1
            refine va_calli (a := #[]) (post := fun r' (_ : Unit) => r' = r) hrun2 hS (fun q _ h => h) (fun q h => h) (fun r' u t H1 locs1 ht hvm hw hB hz1 hk1 hS1 => ?_)
            subst hw
            have := after t H1 locs1 ht hB hS1
            rw [if_neg hr2] at this
            exact this
          · dsimp only at hr1
            subst hr1
            refine va_calll (a := #[]) (post := fun r' (_ : Unit) => r' = r) hrun2 hS (fun q _ h => h) (fun q h => h) (fun r' u t H1 locs1 ht hvm hw hB hz1 hk1 hS1 => ?_)
            subst hw
            have := after t H1 locs1 ht hB hS1
            rw [if_neg hr2] at this
            exact this
          · dsimp only at hr1
            subst hr1
            refine va_callv (a := #[]) (post := fun (_ : Unit) => True) hrun2 hS (fun q _ h => h) (fun q h => h) (fun u t H1 locs1 ht hvm hw hB hz1 hk1 hS1 => ?_)
            have := after t H1 locs1 ht hB hS1
            rw [if_pos hr2] at this
            exact this
        · exact (nn hrun).elim
      · exact (nn hrun).elim
    | _ => exact (nn (by simpa only [zins] using hrun)).elim
end
section
/-! the law's start out of the interpreter's run of the law -/
def R_law : String := "HarpFencesLaw"
def lw_P (b : Addr) (xs : List Int32) (args : Array Value) (s : State) : Prop := args = #[.ref b] ∧ s.IntsAt b xs ∧ xs.length ≤ 3584 ∧ (Jvm.Cond.and given_1 narrow_1).before args s = true
def lw_Q (_ : Array Value) (s : State) (o : Outcome) (t : State) : Prop := o = .returned (some (.int 1)) ∧ Framed s o t [] 600000 7302250
def lw_Z (below : List Frame) (a : Array Value) (s : State) : State → Prop := fun t => ∃ o, t.status = .running ∧ Ended t below o ∧ lw_Q a s o t
/-- the law's own end, with 1 on the stack, nothing written that was there before, its room as the claim has it -/
theorem lw_ret {p : Program} {l : Launch} {e : Env} {s : State} {m : MethodId} {below : List Frame} {meth : Method} {c : Code} {b : Nat} (hx : p.tables.exec = Jvm.exec) (hb : c.code = code) (hr : meth.sig.returnType = ret) (hlocks : meth.locks = false) {pc : Nat} {H : Heap} {ls : Array Slot} (hdg : decode code pc = .ok (.ireturn, 1)) : W p l e room_1 s m #[Value.ref b] below meth c H [] 600000 7302250 (lw_Z below #[Value.ref b] s) (F0 m pc ls [.int 1]) := by
  intro T hT X
  obtain ⟨fs, hret, hrun, hended, hW, hframe⟩ := X.leave (v := some (.int 1)) (hlocks := hlocks) (fun h => by rw [hr] at h; cases h)
  have hmeth' : T.vm.method? m = some meth := X.method'
  refine ⟨T.setFrames fs, ?_, .returned (some (.int 1)), hrun, hended, rfl, ⟨_, rfl⟩, hW, hframe⟩
  jvm_step X.here [X.here.top, hx, hb, hdg, hmeth', hr, ret, narrow_b1]
  (try refine ⟨rfl, ?_⟩); (try refine ⟨rfl, ?_⟩)
  first | (intro acts; rw [hret _ acts rfl rfl rfl]) | rw [hret _ _ rfl rfl rfl]
  exact Steps.refl _
/-- what holds at the law's entry: the machine, the code, the tables' words (any of lw_tbl by 'hts w (by decide +kernel)'), the script of L ints xs at the cell b, what the Statement gives of the start (any of its parts by flat_of_before) -/
def lw_At (p : Program) (s : State) (m : MethodId) (meth : Method) (c : Code) (b L : Nat) (xs : Nat → Int32) : Prop :=
  p.tables.exec = Jvm.exec ∧ c.code = code ∧ meth.sig.returnType = ret ∧ c.maxLocals = 4 ∧ s.vm.findClass R_law = some m.cls ∧ (∀ w ∈ lw_tbl, w.before #[Value.ref b] s = true) ∧ va_X b L xs s s.heap ∧ b < s.heap.size ∧ meth.locks = false ∧ (Jvm.Cond.and given_1 narrow_1).before #[Value.ref b] s = true
abbrev zh0 : zHp := (0, fun _ _ => 0, fun _ _ => none, fun _ _ => 0)
theorem zmem_tbl {w : Cond} (h : w ∈ zTB) : w ∈ lw_tbl := (List.mem_filter.mp h).1
set_option maxRecDepth 100000 in
theorem zSL_197 : zSL 197 = 4847 := by decide +kernel
theorem zAO1 : Cond.arrayOver (.object "HarpFences$Stand") ∈ lw_tbl := List.mem_of_getElem? (i := 273) (by decide +kernel)
theorem zAO2 : Cond.arrayOver (.object "HarpFences$Image") ∈ lw_tbl := List.mem_of_getElem? (i := 287) (by decide +kernel)
theorem zarrP {ty : FieldType} {s : State} {args : Array Value} (h : (Cond.arrayClass ty).before args s = true) (hr : ∀ c, s.vm.findClass ("[" ++ ty.toString) = some c → va_RA s c ty) : ∃ c : ClassId, ArrOfT s c ty ∧ va_RA s c ty := by
  obtain ⟨c, k, comp, h1, h2, h3⟩ := Cond.arrayClass_spec h
  exact ⟨c, fun n z => ⟨fun k h => (by cases h), k, h2, comp, h3⟩, hr c h1⟩
theorem zarrO {C : String} {s : State} {args : Array Value} (h : (Cond.arrayOver (.object C)).before args s = true) : ∃ c : ClassId, ArrOfT s c (.object C) ∧ va_RA s c (.object C) := by
  obtain ⟨comp, c, k, h1, h2, h3, h4, h5⟩ := Cond.arrayOver_spec h
  exact ⟨c, fun n z => ⟨fun k h => (by cases h), k, h3, comp, h4⟩, k, comp, h3, h4, h1, h5⟩
set_option maxHeartbeats 4000000 in
theorem zwhole (hz : ∀ (L : Nat) (xs : Nat → Int32), L ≤ 3584 → ∃ h' : zHp, zev (L, xs) (185, 0, zent [.retAddr 0] 4, [], zh0) = some (.int 1, h') ∧ h'.1 = 197)
    {p : Program} {e : Env} {s : State} {m : MethodId} {below : List Frame} {meth : Method} {c : Code} (l : Launch) {b L : Nat} {xs : Nat → Int32} (hL : L ≤ 3584) (C0 : lw_At p s m meth c b L xs) : W p l e room_1 s m #[Value.ref b] below meth c s.heap [] 0 0 (lw_Z below #[Value.ref b] s) (entryFrame m ([Value.ref b] : List Value).toArray 4) := by
  obtain ⟨hx, hb, hr, hml, hown, hts, hX, hbl, hlocks, hgv⟩ := id C0
  obtain ⟨h', hev, hn⟩ := hz L xs hL
  obtain ⟨n, hrun⟩ := zev_iff.mp hev
  have htz : ∀ w ∈ zTB, w.before #[Value.ref b] s = true := fun w h => hts w (zmem_tbl h)
  have hkn : ∀ (ci : Nat) (r : vw_C), zCl[ci]? = some r → ∃ (cC : ClassId) (iS : Nat → Nat), u_Kn s r.1 r.2.1 r.2.2 cC iS := by
    intro ci r hr
    obtain ⟨-, hck⟩ := zCK_of hr
    exact u_known (n := r.2.2) htz hck.1 (htz _ hck.2.2.2.1)
  obtain ⟨dC, dI, hKc⟩ : ∃ (dC : Nat → ClassId) (dI : Nat → Nat → Nat), ∀ (ci : Nat) (r : vw_C), zCl[ci]? = some r → u_Kn s r.1 r.2.1 r.2.2 (dC ci) (dI ci) := by
    have key : ∀ ci : Nat, ∃ (cC : ClassId) (iS : Nat → Nat), ∀ r, zCl[ci]? = some r → u_Kn s r.1 r.2.1 r.2.2 cC iS := by
      intro ci
      cases h : zCl[ci]? with
      | none => exact ⟨0, fun _ => 0, fun r h => by cases h⟩
      | some r =>
        obtain ⟨cC, iS, hk⟩ := hkn ci r h
        exact ⟨cC, iS, fun r' h' => by cases h'; exact hk⟩
    exact ⟨fun ci => (key ci).choose, fun ci => (key ci).choose_spec.choose, fun ci r hr => (key ci).choose_spec.choose_spec r hr⟩
  obtain ⟨cI, hI1, hI2⟩ := zarrP (htz _ zaci) (fun c q => q)
  obtain ⟨cB, hB1, hB2⟩ := zarrP (htz _ zacb) (fun c q => q)
  obtain ⟨cZ, hZ1, hZ2⟩ := zarrP (htz _ zacz) (fun c q => q)
  obtain ⟨cS, hS1, hS2⟩ := zarrO (hts _ zAO1)
  obtain ⟨cM, hM1, hM2⟩ := zarrO (hts _ zAO2)
  have hS := zsnd l (L, xs) n _ _ hrun
  have hK : va_K (dC, dI) zCl (ztys ((dC, dI), cI, cB, cZ, cS, cM, s.heap.size, b)) s := by
    refine ⟨hKc, fun k q hk => ?_⟩
    match k, hk with
    | 0, hk => cases hk; exact ⟨hI1, hI2⟩
    | 1, hk => cases hk; exact ⟨hB1, hB2⟩
    | 2, hk => cases hk; exact ⟨hZ1, hZ2⟩
    | 3, hk => cases hk; exact ⟨hS1, hS2⟩
    | 4, hk => cases hk; exact ⟨hM1, hM2⟩
    | k + 5, hk => simp [ztys] at hk
  have hN : zNw s := by
    refine ⟨fun w hw => ?_, va_AO.of (hts _ zAO1), va_AO.of (hts _ zAO2)⟩
    have h1 := hts w (List.mem_filter.mp hw).1
    have h2 := (List.mem_filter.mp hw).2
    cases w <;> first | exact va_Nw.of rfl h1 | cases h2
  rw [lg_entry_eq]
  have hLs := zLs_ent (g := ((dC, dI), cI, cB, cZ, cS, cM, s.heap.size, b)) (k := 185) (n := 4) (as := [.retAddr 0]) rfl (by decide)
  have hn0 : h'.1 - 0 = 197 := by omega
  refine hS (yL_law, cL_law, 4, some .boolean, 12, 9, 310) ((dC, dI), cI, cB, cZ, cS, cM, s.heap.size, b) s.heap [] 0 0 _ _ rfl ⟨hx, hb, hml, hown, htz, hK, hN, ⟨hX, hbl⟩, Nat.le_refl _, fun q => absurd q (by decide), Nat.le_refl _, Nat.le_refl _⟩ ⟨rfl, fun k q hk => by simp [zW] at hk⟩ va_S.rf hLs rfl ?_ ?_ ?_
  · show 0 + (h'.1 - 0) ≤ 600000
    omega
  · show 0 + (zSL h'.1 - zSL 0) ≤ 7302250
    rw [hn, zSL_197]
    exact Nat.le_of_ble_eq_true rfl
  · intro pcR lsR H2 locs2 q1 q2 q3
    refine va_forget (fun q hq => q3.2.2 q hq) ?_
    refine W.widen (k := 600000) (n := 7302250) ?_ ?_ ?_
    · show 0 + (h'.1 - 0) ≤ 600000
      omega
    · show 0 + (zSL h'.1 - zSL 0) ≤ 7302250
      rw [hn, zSL_197]
      exact Nat.le_of_ble_eq_true rfl
    · rcases q1 with ⟨r, hr1, hd, -⟩ | ⟨r, hr1, -⟩ | ⟨hr1, -⟩
      · cases hr1
        exact lw_ret hx hb hr hlocks hd
      · cases hr1
      · cases hr1
end
