section
-- ===== PART A: goes FIRST, ahead of the names: the tables' words, and 'selects' of the private methods out of them =====
/-- a private method of a class that the tables say can be made, by its rows of tables_1 -/
def lw_okq (q : MethodName × Nat) : Prop := (q.1.cls ≠ "java/lang/invoke/MethodHandle" ∧ q.1.cls ≠ "java/lang/invoke/VarHandle") ∧ Cond.instantiable q.1.cls q.2 ∈ tables_1 ∧ Cond.privateMethod q.1 ∈ tables_1 ∧ Cond.instanceMethod q.1 ∈ tables_1
theorem lw_p0 : lw_okq (⟨"HarpFences", "beginAnew", "()V"⟩, 11) := ⟨⟨by decide +kernel, by decide +kernel⟩, List.mem_of_getElem? (i := 16) (by decide +kernel), List.mem_of_getElem? (i := 326) (by decide +kernel), List.mem_of_getElem? (i := 327) (by decide +kernel)⟩
theorem lw_p1 : lw_okq (⟨"HarpFences$Text", "step", "()V"⟩, 7) := ⟨⟨by decide +kernel, by decide +kernel⟩, List.mem_of_getElem? (i := 24) (by decide +kernel), List.mem_of_getElem? (i := 392) (by decide +kernel), List.mem_of_getElem? (i := 393) (by decide +kernel)⟩
theorem lw_p2 : lw_okq (⟨"HarpFences$Text", "stepLetters", "()V"⟩, 7) := ⟨⟨by decide +kernel, by decide +kernel⟩, List.mem_of_getElem? (i := 24) (by decide +kernel), List.mem_of_getElem? (i := 399) (by decide +kernel), List.mem_of_getElem? (i := 400) (by decide +kernel)⟩
theorem lw_p3 : lw_okq (⟨"HarpFences$Text", "stepNumber", "()V"⟩, 7) := ⟨⟨by decide +kernel, by decide +kernel⟩, List.mem_of_getElem? (i := 24) (by decide +kernel), List.mem_of_getElem? (i := 406) (by decide +kernel), List.mem_of_getElem? (i := 407) (by decide +kernel)⟩
theorem lw_p4 : lw_okq (⟨"HarpFences$Text", "tellsFields", "(LHarpFences$Land;)Z"⟩, 7) := ⟨⟨by decide +kernel, by decide +kernel⟩, List.mem_of_getElem? (i := 24) (by decide +kernel), List.mem_of_getElem? (i := 413) (by decide +kernel), List.mem_of_getElem? (i := 414) (by decide +kernel)⟩
theorem lw_p5 : lw_okq (⟨"HarpFences$Text", "number", "(II)Z"⟩, 7) := ⟨⟨by decide +kernel, by decide +kernel⟩, List.mem_of_getElem? (i := 24) (by decide +kernel), List.mem_of_getElem? (i := 417) (by decide +kernel), List.mem_of_getElem? (i := 418) (by decide +kernel)⟩
theorem lw_p6 : lw_okq (⟨"HarpFences$Text", "tellsFence", "(LHarpFences$Land;)Z"⟩, 7) := ⟨⟨by decide +kernel, by decide +kernel⟩, List.mem_of_getElem? (i := 24) (by decide +kernel), List.mem_of_getElem? (i := 421) (by decide +kernel), List.mem_of_getElem? (i := 422) (by decide +kernel)⟩
theorem lw_p7 : lw_okq (⟨"HarpFences$Text", "tellsKind", "(LHarpFences$Land;)Z"⟩, 7) := ⟨⟨by decide +kernel, by decide +kernel⟩, List.mem_of_getElem? (i := 24) (by decide +kernel), List.mem_of_getElem? (i := 425) (by decide +kernel), List.mem_of_getElem? (i := 426) (by decide +kernel)⟩
theorem lw_p8 : lw_okq (⟨"HarpFences$Text", "tellsBeast", "(LHarpFences$Land;)Z"⟩, 7) := ⟨⟨by decide +kernel, by decide +kernel⟩, List.mem_of_getElem? (i := 24) (by decide +kernel), List.mem_of_getElem? (i := 429) (by decide +kernel), List.mem_of_getElem? (i := 430) (by decide +kernel)⟩
theorem lw_p9 : lw_okq (⟨"HarpFences$Text", "tellsWet", "(LHarpFences$Land;)Z"⟩, 7) := ⟨⟨by decide +kernel, by decide +kernel⟩, List.mem_of_getElem? (i := 24) (by decide +kernel), List.mem_of_getElem? (i := 433) (by decide +kernel), List.mem_of_getElem? (i := 434) (by decide +kernel)⟩
theorem lw_p10 : lw_okq (⟨"HarpFences$Text", "stops", "()Z"⟩, 7) := ⟨⟨by decide +kernel, by decide +kernel⟩, List.mem_of_getElem? (i := 24) (by decide +kernel), List.mem_of_getElem? (i := 437) (by decide +kernel), List.mem_of_getElem? (i := 438) (by decide +kernel)⟩
theorem lw_p11 : lw_okq (⟨"HarpFences", "isFence", "(I)Z"⟩, 11) := ⟨⟨by decide +kernel, by decide +kernel⟩, List.mem_of_getElem? (i := 16) (by decide +kernel), List.mem_of_getElem? (i := 450) (by decide +kernel), List.mem_of_getElem? (i := 451) (by decide +kernel)⟩
theorem lw_p12 : lw_okq (⟨"HarpFences", "isKind", "(I)Z"⟩, 11) := ⟨⟨by decide +kernel, by decide +kernel⟩, List.mem_of_getElem? (i := 16) (by decide +kernel), List.mem_of_getElem? (i := 458) (by decide +kernel), List.mem_of_getElem? (i := 459) (by decide +kernel)⟩
theorem lw_p13 : lw_okq (⟨"HarpFences", "isBeast", "(I)Z"⟩, 11) := ⟨⟨by decide +kernel, by decide +kernel⟩, List.mem_of_getElem? (i := 16) (by decide +kernel), List.mem_of_getElem? (i := 467) (by decide +kernel), List.mem_of_getElem? (i := 468) (by decide +kernel)⟩
theorem lw_p14 : lw_okq (⟨"HarpFences$Choices", "partnerAlikes", "()V"⟩, 5) := ⟨⟨by decide +kernel, by decide +kernel⟩, List.mem_of_getElem? (i := 277) (by decide +kernel), List.mem_of_getElem? (i := 552) (by decide +kernel), List.mem_of_getElem? (i := 553) (by decide +kernel)⟩
theorem lw_p15 : lw_okq (⟨"HarpFences$Choices", "areAlike", "(II)Z"⟩, 5) := ⟨⟨by decide +kernel, by decide +kernel⟩, List.mem_of_getElem? (i := 277) (by decide +kernel), List.mem_of_getElem? (i := 556) (by decide +kernel), List.mem_of_getElem? (i := 557) (by decide +kernel)⟩
def lw_privs_1 : List (MethodName × Nat) := [(⟨"HarpFences", "beginAnew", "()V"⟩, 11), (⟨"HarpFences$Text", "step", "()V"⟩, 7), (⟨"HarpFences$Text", "stepLetters", "()V"⟩, 7), (⟨"HarpFences$Text", "stepNumber", "()V"⟩, 7), (⟨"HarpFences$Text", "tellsFields", "(LHarpFences$Land;)Z"⟩, 7), (⟨"HarpFences$Text", "number", "(II)Z"⟩, 7), (⟨"HarpFences$Text", "tellsFence", "(LHarpFences$Land;)Z"⟩, 7), (⟨"HarpFences$Text", "tellsKind", "(LHarpFences$Land;)Z"⟩, 7), (⟨"HarpFences$Text", "tellsBeast", "(LHarpFences$Land;)Z"⟩, 7), (⟨"HarpFences$Text", "tellsWet", "(LHarpFences$Land;)Z"⟩, 7), (⟨"HarpFences$Text", "stops", "()Z"⟩, 7), (⟨"HarpFences", "isFence", "(I)Z"⟩, 11), (⟨"HarpFences", "isKind", "(I)Z"⟩, 11), (⟨"HarpFences", "isBeast", "(I)Z"⟩, 11), (⟨"HarpFences$Choices", "partnerAlikes", "()V"⟩, 5), (⟨"HarpFences$Choices", "areAlike", "(II)Z"⟩, 5)]
theorem lw_r1 : ∀ q ∈ lw_privs_1, lw_okq q := List.forall_mem_cons.mpr ⟨lw_p0, List.forall_mem_cons.mpr ⟨lw_p1, List.forall_mem_cons.mpr ⟨lw_p2, List.forall_mem_cons.mpr ⟨lw_p3, List.forall_mem_cons.mpr ⟨lw_p4, List.forall_mem_cons.mpr ⟨lw_p5, List.forall_mem_cons.mpr ⟨lw_p6, List.forall_mem_cons.mpr ⟨lw_p7, List.forall_mem_cons.mpr ⟨lw_p8, List.forall_mem_cons.mpr ⟨lw_p9, List.forall_mem_cons.mpr ⟨lw_p10, List.forall_mem_cons.mpr ⟨lw_p11, List.forall_mem_cons.mpr ⟨lw_p12, List.forall_mem_cons.mpr ⟨lw_p13, List.forall_mem_cons.mpr ⟨lw_p14, List.forall_mem_cons.mpr ⟨lw_p15, fun _ h => absurd h List.not_mem_nil⟩⟩⟩⟩⟩⟩⟩⟩⟩⟩⟩⟩⟩⟩⟩⟩
theorem lw_p16 : lw_okq (⟨"HarpFences$Choices", "fewestOfEachTwo", "(I)I"⟩, 5) := ⟨⟨by decide +kernel, by decide +kernel⟩, List.mem_of_getElem? (i := 277) (by decide +kernel), List.mem_of_getElem? (i := 570) (by decide +kernel), List.mem_of_getElem? (i := 571) (by decide +kernel)⟩
theorem lw_p17 : lw_okq (⟨"HarpFences$Choices", "hasOneOfEachTwo", "(II)Z"⟩, 5) := ⟨⟨by decide +kernel, by decide +kernel⟩, List.mem_of_getElem? (i := 277) (by decide +kernel), List.mem_of_getElem? (i := 574) (by decide +kernel), List.mem_of_getElem? (i := 575) (by decide +kernel)⟩
theorem lw_p18 : lw_okq (⟨"HarpFences", "isField", "(I)Z"⟩, 11) := ⟨⟨by decide +kernel, by decide +kernel⟩, List.mem_of_getElem? (i := 16) (by decide +kernel), List.mem_of_getElem? (i := 612) (by decide +kernel), List.mem_of_getElem? (i := 613) (by decide +kernel)⟩
theorem lw_p19 : lw_okq (⟨"HarpFences$Hearing", "crossAll", "(II)V"⟩, 7) := ⟨⟨by decide +kernel, by decide +kernel⟩, List.mem_of_getElem? (i := 223) (by decide +kernel), List.mem_of_getElem? (i := 620) (by decide +kernel), List.mem_of_getElem? (i := 621) (by decide +kernel)⟩
theorem lw_p20 : lw_okq (⟨"HarpFences$Hearing", "endsBehind", "(III)I"⟩, 7) := ⟨⟨by decide +kernel, by decide +kernel⟩, List.mem_of_getElem? (i := 223) (by decide +kernel), List.mem_of_getElem? (i := 634) (by decide +kernel), List.mem_of_getElem? (i := 635) (by decide +kernel)⟩
theorem lw_p21 : lw_okq (⟨"HarpFences$Hearing", "greatestCrowd", "(I)I"⟩, 7) := ⟨⟨by decide +kernel, by decide +kernel⟩, List.mem_of_getElem? (i := 223) (by decide +kernel), List.mem_of_getElem? (i := 655) (by decide +kernel), List.mem_of_getElem? (i := 656) (by decide +kernel)⟩
theorem lw_p22 : lw_okq (⟨"HarpFences$Hearing", "comesTo", "(II)Z"⟩, 7) := ⟨⟨by decide +kernel, by decide +kernel⟩, List.mem_of_getElem? (i := 223) (by decide +kernel), List.mem_of_getElem? (i := 659) (by decide +kernel), List.mem_of_getElem? (i := 660) (by decide +kernel)⟩
theorem lw_p23 : lw_okq (⟨"HarpFences$Paths", "measure", "(II)V"⟩, 6) := ⟨⟨by decide +kernel, by decide +kernel⟩, List.mem_of_getElem? (i := 252) (by decide +kernel), List.mem_of_getElem? (i := 673) (by decide +kernel), List.mem_of_getElem? (i := 674) (by decide +kernel)⟩
theorem lw_p24 : lw_okq (⟨"HarpFences$Paths", "costOf", "(II)I"⟩, 6) := ⟨⟨by decide +kernel, by decide +kernel⟩, List.mem_of_getElem? (i := 252) (by decide +kernel), List.mem_of_getElem? (i := 678) (by decide +kernel), List.mem_of_getElem? (i := 679) (by decide +kernel)⟩
theorem lw_p25 : lw_okq (⟨"HarpFences$Farm", "isStringAt", "(II)Z"⟩, 2) := ⟨⟨by decide +kernel, by decide +kernel⟩, List.mem_of_getElem? (i := 183) (by decide +kernel), List.mem_of_getElem? (i := 702) (by decide +kernel), List.mem_of_getElem? (i := 703) (by decide +kernel)⟩
theorem lw_p26 : lw_okq (⟨"HarpFences$Choices", "measureHerds", "()V"⟩, 5) := ⟨⟨by decide +kernel, by decide +kernel⟩, List.mem_of_getElem? (i := 277) (by decide +kernel), List.mem_of_getElem? (i := 717) (by decide +kernel), List.mem_of_getElem? (i := 718) (by decide +kernel)⟩
theorem lw_p27 : lw_okq (⟨"HarpFences$Choices", "milkWith", "(III)I"⟩, 5) := ⟨⟨by decide +kernel, by decide +kernel⟩, List.mem_of_getElem? (i := 277) (by decide +kernel), List.mem_of_getElem? (i := 722) (by decide +kernel), List.mem_of_getElem? (i := 723) (by decide +kernel)⟩
theorem lw_p28 : lw_okq (⟨"HarpFences$Choices", "bestField", "(II)I"⟩, 5) := ⟨⟨by decide +kernel, by decide +kernel⟩, List.mem_of_getElem? (i := 277) (by decide +kernel), List.mem_of_getElem? (i := 730) (by decide +kernel), List.mem_of_getElem? (i := 731) (by decide +kernel)⟩
theorem lw_p29 : lw_okq (⟨"HarpFences$Paths", "snappedFences", "(I)I"⟩, 6) := ⟨⟨by decide +kernel, by decide +kernel⟩, List.mem_of_getElem? (i := 252) (by decide +kernel), List.mem_of_getElem? (i := 750) (by decide +kernel), List.mem_of_getElem? (i := 751) (by decide +kernel)⟩
theorem lw_p30 : lw_okq (⟨"HarpFences$Paths", "reaches", "(III)Z"⟩, 6) := ⟨⟨by decide +kernel, by decide +kernel⟩, List.mem_of_getElem? (i := 252) (by decide +kernel), List.mem_of_getElem? (i := 754) (by decide +kernel), List.mem_of_getElem? (i := 755) (by decide +kernel)⟩
theorem lw_p31 : lw_okq (⟨"HarpFences", "markString", "(I)I"⟩, 11) := ⟨⟨by decide +kernel, by decide +kernel⟩, List.mem_of_getElem? (i := 16) (by decide +kernel), List.mem_of_getElem? (i := 767) (by decide +kernel), List.mem_of_getElem? (i := 768) (by decide +kernel)⟩
def lw_privs_2 : List (MethodName × Nat) := [(⟨"HarpFences$Choices", "fewestOfEachTwo", "(I)I"⟩, 5), (⟨"HarpFences$Choices", "hasOneOfEachTwo", "(II)Z"⟩, 5), (⟨"HarpFences", "isField", "(I)Z"⟩, 11), (⟨"HarpFences$Hearing", "crossAll", "(II)V"⟩, 7), (⟨"HarpFences$Hearing", "endsBehind", "(III)I"⟩, 7), (⟨"HarpFences$Hearing", "greatestCrowd", "(I)I"⟩, 7), (⟨"HarpFences$Hearing", "comesTo", "(II)Z"⟩, 7), (⟨"HarpFences$Paths", "measure", "(II)V"⟩, 6), (⟨"HarpFences$Paths", "costOf", "(II)I"⟩, 6), (⟨"HarpFences$Farm", "isStringAt", "(II)Z"⟩, 2), (⟨"HarpFences$Choices", "measureHerds", "()V"⟩, 5), (⟨"HarpFences$Choices", "milkWith", "(III)I"⟩, 5), (⟨"HarpFences$Choices", "bestField", "(II)I"⟩, 5), (⟨"HarpFences$Paths", "snappedFences", "(I)I"⟩, 6), (⟨"HarpFences$Paths", "reaches", "(III)Z"⟩, 6), (⟨"HarpFences", "markString", "(I)I"⟩, 11)]
theorem lw_r2 : ∀ q ∈ lw_privs_2, lw_okq q := List.forall_mem_cons.mpr ⟨lw_p16, List.forall_mem_cons.mpr ⟨lw_p17, List.forall_mem_cons.mpr ⟨lw_p18, List.forall_mem_cons.mpr ⟨lw_p19, List.forall_mem_cons.mpr ⟨lw_p20, List.forall_mem_cons.mpr ⟨lw_p21, List.forall_mem_cons.mpr ⟨lw_p22, List.forall_mem_cons.mpr ⟨lw_p23, List.forall_mem_cons.mpr ⟨lw_p24, List.forall_mem_cons.mpr ⟨lw_p25, List.forall_mem_cons.mpr ⟨lw_p26, List.forall_mem_cons.mpr ⟨lw_p27, List.forall_mem_cons.mpr ⟨lw_p28, List.forall_mem_cons.mpr ⟨lw_p29, List.forall_mem_cons.mpr ⟨lw_p30, List.forall_mem_cons.mpr ⟨lw_p31, fun _ h => absurd h List.not_mem_nil⟩⟩⟩⟩⟩⟩⟩⟩⟩⟩⟩⟩⟩⟩⟩⟩
theorem lw_p32 : lw_okq (⟨"HarpFences", "markBass", "(I)I"⟩, 11) := ⟨⟨by decide +kernel, by decide +kernel⟩, List.mem_of_getElem? (i := 16) (by decide +kernel), List.mem_of_getElem? (i := 771) (by decide +kernel), List.mem_of_getElem? (i := 772) (by decide +kernel)⟩
theorem lw_p33 : lw_okq (⟨"HarpFences", "markTreble", "(I)I"⟩, 11) := ⟨⟨by decide +kernel, by decide +kernel⟩, List.mem_of_getElem? (i := 16) (by decide +kernel), List.mem_of_getElem? (i := 776) (by decide +kernel), List.mem_of_getElem? (i := 777) (by decide +kernel)⟩
theorem lw_p34 : lw_okq (⟨"HarpFences", "markBull", "(I)I"⟩, 11) := ⟨⟨by decide +kernel, by decide +kernel⟩, List.mem_of_getElem? (i := 16) (by decide +kernel), List.mem_of_getElem? (i := 781) (by decide +kernel), List.mem_of_getElem? (i := 782) (by decide +kernel)⟩
theorem lw_p35 : lw_okq (⟨"HarpFences", "markLark", "(I)I"⟩, 11) := ⟨⟨by decide +kernel, by decide +kernel⟩, List.mem_of_getElem? (i := 16) (by decide +kernel), List.mem_of_getElem? (i := 786) (by decide +kernel), List.mem_of_getElem? (i := 787) (by decide +kernel)⟩
theorem lw_p36 : lw_okq (⟨"HarpFences", "markPedal", "(I)I"⟩, 11) := ⟨⟨by decide +kernel, by decide +kernel⟩, List.mem_of_getElem? (i := 16) (by decide +kernel), List.mem_of_getElem? (i := 791) (by decide +kernel), List.mem_of_getElem? (i := 792) (by decide +kernel)⟩
theorem lw_p37 : lw_okq (⟨"HarpFencesModel", "read", "()V"⟩, 32) := ⟨⟨by decide +kernel, by decide +kernel⟩, List.mem_of_getElem? (i := 828) (by decide +kernel), List.mem_of_getElem? (i := 948) (by decide +kernel), List.mem_of_getElem? (i := 949) (by decide +kernel)⟩
theorem lw_p38 : lw_okq (⟨"HarpFencesModel", "step", "()V"⟩, 32) := ⟨⟨by decide +kernel, by decide +kernel⟩, List.mem_of_getElem? (i := 828) (by decide +kernel), List.mem_of_getElem? (i := 952) (by decide +kernel), List.mem_of_getElem? (i := 953) (by decide +kernel)⟩
theorem lw_p39 : lw_okq (⟨"HarpFencesModel", "here", "()I"⟩, 32) := ⟨⟨by decide +kernel, by decide +kernel⟩, List.mem_of_getElem? (i := 828) (by decide +kernel), List.mem_of_getElem? (i := 956) (by decide +kernel), List.mem_of_getElem? (i := 957) (by decide +kernel)⟩
theorem lw_p40 : lw_okq (⟨"HarpFencesModel", "may", "(IZ)Z"⟩, 32) := ⟨⟨by decide +kernel, by decide +kernel⟩, List.mem_of_getElem? (i := 828) (by decide +kernel), List.mem_of_getElem? (i := 960) (by decide +kernel), List.mem_of_getElem? (i := 961) (by decide +kernel)⟩
theorem lw_p41 : lw_okq (⟨"HarpFencesModel", "due", "(Z)V"⟩, 32) := ⟨⟨by decide +kernel, by decide +kernel⟩, List.mem_of_getElem? (i := 828) (by decide +kernel), List.mem_of_getElem? (i := 964) (by decide +kernel), List.mem_of_getElem? (i := 965) (by decide +kernel)⟩
theorem lw_p42 : lw_okq (⟨"HarpFencesModel", "item", "(I)V"⟩, 32) := ⟨⟨by decide +kernel, by decide +kernel⟩, List.mem_of_getElem? (i := 828) (by decide +kernel), List.mem_of_getElem? (i := 968) (by decide +kernel), List.mem_of_getElem? (i := 969) (by decide +kernel)⟩
theorem lw_p43 : lw_okq (⟨"HarpFencesModel", "number", "(II)I"⟩, 32) := ⟨⟨by decide +kernel, by decide +kernel⟩, List.mem_of_getElem? (i := 828) (by decide +kernel), List.mem_of_getElem? (i := 972) (by decide +kernel), List.mem_of_getElem? (i := 973) (by decide +kernel)⟩
theorem lw_p44 : lw_okq (⟨"HarpFencesModel", "isFence", "(I)Z"⟩, 32) := ⟨⟨by decide +kernel, by decide +kernel⟩, List.mem_of_getElem? (i := 828) (by decide +kernel), List.mem_of_getElem? (i := 980) (by decide +kernel), List.mem_of_getElem? (i := 981) (by decide +kernel)⟩
theorem lw_p45 : lw_okq (⟨"HarpFencesModel", "isKind", "(I)Z"⟩, 32) := ⟨⟨by decide +kernel, by decide +kernel⟩, List.mem_of_getElem? (i := 828) (by decide +kernel), List.mem_of_getElem? (i := 991) (by decide +kernel), List.mem_of_getElem? (i := 992) (by decide +kernel)⟩
theorem lw_p46 : lw_okq (⟨"HarpFencesModel", "isBeast", "(I)Z"⟩, 32) := ⟨⟨by decide +kernel, by decide +kernel⟩, List.mem_of_getElem? (i := 828) (by decide +kernel), List.mem_of_getElem? (i := 1000) (by decide +kernel), List.mem_of_getElem? (i := 1001) (by decide +kernel)⟩
theorem lw_p47 : lw_okq (⟨"HarpFencesModel", "soundOf", "(II)I"⟩, 32) := ⟨⟨by decide +kernel, by decide +kernel⟩, List.mem_of_getElem? (i := 828) (by decide +kernel), List.mem_of_getElem? (i := 1008) (by decide +kernel), List.mem_of_getElem? (i := 1009) (by decide +kernel)⟩
def lw_privs_3 : List (MethodName × Nat) := [(⟨"HarpFences", "markBass", "(I)I"⟩, 11), (⟨"HarpFences", "markTreble", "(I)I"⟩, 11), (⟨"HarpFences", "markBull", "(I)I"⟩, 11), (⟨"HarpFences", "markLark", "(I)I"⟩, 11), (⟨"HarpFences", "markPedal", "(I)I"⟩, 11), (⟨"HarpFencesModel", "read", "()V"⟩, 32), (⟨"HarpFencesModel", "step", "()V"⟩, 32), (⟨"HarpFencesModel", "here", "()I"⟩, 32), (⟨"HarpFencesModel", "may", "(IZ)Z"⟩, 32), (⟨"HarpFencesModel", "due", "(Z)V"⟩, 32), (⟨"HarpFencesModel", "item", "(I)V"⟩, 32), (⟨"HarpFencesModel", "number", "(II)I"⟩, 32), (⟨"HarpFencesModel", "isFence", "(I)Z"⟩, 32), (⟨"HarpFencesModel", "isKind", "(I)Z"⟩, 32), (⟨"HarpFencesModel", "isBeast", "(I)Z"⟩, 32), (⟨"HarpFencesModel", "soundOf", "(II)I"⟩, 32)]
theorem lw_r3 : ∀ q ∈ lw_privs_3, lw_okq q := List.forall_mem_cons.mpr ⟨lw_p32, List.forall_mem_cons.mpr ⟨lw_p33, List.forall_mem_cons.mpr ⟨lw_p34, List.forall_mem_cons.mpr ⟨lw_p35, List.forall_mem_cons.mpr ⟨lw_p36, List.forall_mem_cons.mpr ⟨lw_p37, List.forall_mem_cons.mpr ⟨lw_p38, List.forall_mem_cons.mpr ⟨lw_p39, List.forall_mem_cons.mpr ⟨lw_p40, List.forall_mem_cons.mpr ⟨lw_p41, List.forall_mem_cons.mpr ⟨lw_p42, List.forall_mem_cons.mpr ⟨lw_p43, List.forall_mem_cons.mpr ⟨lw_p44, List.forall_mem_cons.mpr ⟨lw_p45, List.forall_mem_cons.mpr ⟨lw_p46, List.forall_mem_cons.mpr ⟨lw_p47, fun _ h => absurd h List.not_mem_nil⟩⟩⟩⟩⟩⟩⟩⟩⟩⟩⟩⟩⟩⟩⟩⟩
theorem lw_p48 : lw_okq (⟨"HarpFencesModel", "isAt", "(II)Z"⟩, 32) := ⟨⟨by decide +kernel, by decide +kernel⟩, List.mem_of_getElem? (i := 828) (by decide +kernel), List.mem_of_getElem? (i := 1016) (by decide +kernel), List.mem_of_getElem? (i := 1017) (by decide +kernel)⟩
theorem lw_p49 : lw_okq (⟨"HarpFencesModel", "know", "()V"⟩, 32) := ⟨⟨by decide +kernel, by decide +kernel⟩, List.mem_of_getElem? (i := 828) (by decide +kernel), List.mem_of_getElem? (i := 1020) (by decide +kernel), List.mem_of_getElem? (i := 1021) (by decide +kernel)⟩
theorem lw_p50 : lw_okq (⟨"HarpFencesModel", "across", "(II)I"⟩, 32) := ⟨⟨by decide +kernel, by decide +kernel⟩, List.mem_of_getElem? (i := 828) (by decide +kernel), List.mem_of_getElem? (i := 1024) (by decide +kernel), List.mem_of_getElem? (i := 1025) (by decide +kernel)⟩
theorem lw_p51 : lw_okq (⟨"HarpFencesModel", "sing", "(I)V"⟩, 32) := ⟨⟨by decide +kernel, by decide +kernel⟩, List.mem_of_getElem? (i := 828) (by decide +kernel), List.mem_of_getElem? (i := 1028) (by decide +kernel), List.mem_of_getElem? (i := 1029) (by decide +kernel)⟩
theorem lw_p52 : lw_okq (⟨"HarpFencesModel", "alike", "()I"⟩, 32) := ⟨⟨by decide +kernel, by decide +kernel⟩, List.mem_of_getElem? (i := 828) (by decide +kernel), List.mem_of_getElem? (i := 1062) (by decide +kernel), List.mem_of_getElem? (i := 1063) (by decide +kernel)⟩
theorem lw_p53 : lw_okq (⟨"HarpFencesModel", "areAlike", "(II)Z"⟩, 32) := ⟨⟨by decide +kernel, by decide +kernel⟩, List.mem_of_getElem? (i := 828) (by decide +kernel), List.mem_of_getElem? (i := 1066) (by decide +kernel), List.mem_of_getElem? (i := 1067) (by decide +kernel)⟩
theorem lw_p54 : lw_okq (⟨"HarpFencesModel", "isString", "(I)Z"⟩, 32) := ⟨⟨by decide +kernel, by decide +kernel⟩, List.mem_of_getElem? (i := 828) (by decide +kernel), List.mem_of_getElem? (i := 1070) (by decide +kernel), List.mem_of_getElem? (i := 1071) (by decide +kernel)⟩
theorem lw_p55 : lw_okq (⟨"HarpFencesModel", "fewest", "(I)I"⟩, 32) := ⟨⟨by decide +kernel, by decide +kernel⟩, List.mem_of_getElem? (i := 828) (by decide +kernel), List.mem_of_getElem? (i := 1074) (by decide +kernel), List.mem_of_getElem? (i := 1075) (by decide +kernel)⟩
theorem lw_p56 : lw_okq (⟨"HarpFencesModel", "areApart", "(I)Z"⟩, 32) := ⟨⟨by decide +kernel, by decide +kernel⟩, List.mem_of_getElem? (i := 828) (by decide +kernel), List.mem_of_getElem? (i := 1078) (by decide +kernel), List.mem_of_getElem? (i := 1079) (by decide +kernel)⟩
theorem lw_p57 : lw_okq (⟨"HarpFencesModel", "areHeard", "(I)Z"⟩, 32) := ⟨⟨by decide +kernel, by decide +kernel⟩, List.mem_of_getElem? (i := 828) (by decide +kernel), List.mem_of_getElem? (i := 1082) (by decide +kernel), List.mem_of_getElem? (i := 1083) (by decide +kernel)⟩
theorem lw_p58 : lw_okq (⟨"HarpFencesModel", "isField", "(I)Z"⟩, 32) := ⟨⟨by decide +kernel, by decide +kernel⟩, List.mem_of_getElem? (i := 828) (by decide +kernel), List.mem_of_getElem? (i := 1106) (by decide +kernel), List.mem_of_getElem? (i := 1107) (by decide +kernel)⟩
theorem lw_p59 : lw_okq (⟨"HarpFencesModel", "endsOf", "(I)I"⟩, 32) := ⟨⟨by decide +kernel, by decide +kernel⟩, List.mem_of_getElem? (i := 828) (by decide +kernel), List.mem_of_getElem? (i := 1115) (by decide +kernel), List.mem_of_getElem? (i := 1116) (by decide +kernel)⟩
theorem lw_p60 : lw_okq (⟨"HarpFencesModel", "comesTo", "(II)Z"⟩, 32) := ⟨⟨by decide +kernel, by decide +kernel⟩, List.mem_of_getElem? (i := 828) (by decide +kernel), List.mem_of_getElem? (i := 1127) (by decide +kernel), List.mem_of_getElem? (i := 1128) (by decide +kernel)⟩
theorem lw_p61 : lw_okq (⟨"HarpFencesModel", "measure", "(II)V"⟩, 32) := ⟨⟨by decide +kernel, by decide +kernel⟩, List.mem_of_getElem? (i := 828) (by decide +kernel), List.mem_of_getElem? (i := 1135) (by decide +kernel), List.mem_of_getElem? (i := 1136) (by decide +kernel)⟩
theorem lw_p62 : lw_okq (⟨"HarpFencesModel", "costOf", "(II)I"⟩, 32) := ⟨⟨by decide +kernel, by decide +kernel⟩, List.mem_of_getElem? (i := 828) (by decide +kernel), List.mem_of_getElem? (i := 1140) (by decide +kernel), List.mem_of_getElem? (i := 1141) (by decide +kernel)⟩
theorem lw_p63 : lw_okq (⟨"HarpFencesModel", "fifthsOf", "(I)I"⟩, 32) := ⟨⟨by decide +kernel, by decide +kernel⟩, List.mem_of_getElem? (i := 828) (by decide +kernel), List.mem_of_getElem? (i := 1148) (by decide +kernel), List.mem_of_getElem? (i := 1149) (by decide +kernel)⟩
def lw_privs_4 : List (MethodName × Nat) := [(⟨"HarpFencesModel", "isAt", "(II)Z"⟩, 32), (⟨"HarpFencesModel", "know", "()V"⟩, 32), (⟨"HarpFencesModel", "across", "(II)I"⟩, 32), (⟨"HarpFencesModel", "sing", "(I)V"⟩, 32), (⟨"HarpFencesModel", "alike", "()I"⟩, 32), (⟨"HarpFencesModel", "areAlike", "(II)Z"⟩, 32), (⟨"HarpFencesModel", "isString", "(I)Z"⟩, 32), (⟨"HarpFencesModel", "fewest", "(I)I"⟩, 32), (⟨"HarpFencesModel", "areApart", "(I)Z"⟩, 32), (⟨"HarpFencesModel", "areHeard", "(I)Z"⟩, 32), (⟨"HarpFencesModel", "isField", "(I)Z"⟩, 32), (⟨"HarpFencesModel", "endsOf", "(I)I"⟩, 32), (⟨"HarpFencesModel", "comesTo", "(II)Z"⟩, 32), (⟨"HarpFencesModel", "measure", "(II)V"⟩, 32), (⟨"HarpFencesModel", "costOf", "(II)I"⟩, 32), (⟨"HarpFencesModel", "fifthsOf", "(I)I"⟩, 32)]
theorem lw_r4 : ∀ q ∈ lw_privs_4, lw_okq q := List.forall_mem_cons.mpr ⟨lw_p48, List.forall_mem_cons.mpr ⟨lw_p49, List.forall_mem_cons.mpr ⟨lw_p50, List.forall_mem_cons.mpr ⟨lw_p51, List.forall_mem_cons.mpr ⟨lw_p52, List.forall_mem_cons.mpr ⟨lw_p53, List.forall_mem_cons.mpr ⟨lw_p54, List.forall_mem_cons.mpr ⟨lw_p55, List.forall_mem_cons.mpr ⟨lw_p56, List.forall_mem_cons.mpr ⟨lw_p57, List.forall_mem_cons.mpr ⟨lw_p58, List.forall_mem_cons.mpr ⟨lw_p59, List.forall_mem_cons.mpr ⟨lw_p60, List.forall_mem_cons.mpr ⟨lw_p61, List.forall_mem_cons.mpr ⟨lw_p62, List.forall_mem_cons.mpr ⟨lw_p63, fun _ h => absurd h List.not_mem_nil⟩⟩⟩⟩⟩⟩⟩⟩⟩⟩⟩⟩⟩⟩⟩⟩
theorem lw_p64 : lw_okq (⟨"HarpFencesModel", "milkBy", "(III)I"⟩, 32) := ⟨⟨by decide +kernel, by decide +kernel⟩, List.mem_of_getElem? (i := 828) (by decide +kernel), List.mem_of_getElem? (i := 1156) (by decide +kernel), List.mem_of_getElem? (i := 1157) (by decide +kernel)⟩
theorem lw_p65 : lw_okq (⟨"HarpFencesModel", "isUnheard", "(IIII)Z"⟩, 32) := ⟨⟨by decide +kernel, by decide +kernel⟩, List.mem_of_getElem? (i := 828) (by decide +kernel), List.mem_of_getElem? (i := 1164) (by decide +kernel), List.mem_of_getElem? (i := 1165) (by decide +kernel)⟩
def lw_privs_5 : List (MethodName × Nat) := [(⟨"HarpFencesModel", "milkBy", "(III)I"⟩, 32), (⟨"HarpFencesModel", "isUnheard", "(IIII)Z"⟩, 32)]
theorem lw_r5 : ∀ q ∈ lw_privs_5, lw_okq q := List.forall_mem_cons.mpr ⟨lw_p64, List.forall_mem_cons.mpr ⟨lw_p65, fun _ h => absurd h List.not_mem_nil⟩⟩
def lw_privs : List (MethodName × Nat) := lw_privs_1 ++ (lw_privs_2 ++ (lw_privs_3 ++ (lw_privs_4 ++ (lw_privs_5))))
def lw_tbl : List Cond := k2_sels lw_privs ++ tables_1
theorem lw_privs_ok : ∀ q ∈ lw_privs, lw_okq q := by
  show ∀ q ∈ lw_privs_1 ++ (lw_privs_2 ++ (lw_privs_3 ++ (lw_privs_4 ++ (lw_privs_5)))), lw_okq q
  exact List.forall_mem_append.mpr ⟨lw_r1, List.forall_mem_append.mpr ⟨lw_r2, List.forall_mem_append.mpr ⟨lw_r3, List.forall_mem_append.mpr ⟨lw_r4, lw_r5⟩⟩⟩⟩
-- ===== end of PART A; then your names; then what follows =====
end
section
def RX0 : String := "HarpFences$Choices"
def TX0 : u_T := fun k => match k with
  | 0 => ("HarpFences$Choices", "farm", "LHarpFences$Farm;", true)
  | 1 => ("HarpFences$Choices", "land", "LHarpFences$Land;", true)
  | 2 => ("HarpFences$Choices", "partners", "[I", true)
  | 3 => ("HarpFences$Choices", "fifthsOf", "[I", true)
  | _ => ("HarpFences$Choices", "mostWithTaken", "[I", true)
def tyX0 : Nat → FieldType := fun k => match k with
  | 0 => .object "HarpFences$Farm"
  | 1 => .object "HarpFences$Land"
  | 2 => .array .int
  | 3 => .array .int
  | _ => .array .int
theorem nmX0 : ∀ a, a < 5 → ∀ b, b < 5 → a ≠ b → (TX0 a).2.1 ≠ (TX0 b).2.1 := by decide +kernel
theorem tyX0_ok : ∀ k, k < 5 → parseFieldDescriptor (TX0 k).2.2.1 = some (tyX0 k) := by decide +kernel
abbrev cX0_init : ByteArray := prog_2_method_1_code
def yX0_init : MethodName := ⟨RX0, "<init>", "(LHarpFences$Farm;)V"⟩
abbrev cX0_alike : ByteArray := prog_2_method_2_code
def yX0_alike : MethodName := ⟨RX0, "alike", "()I"⟩
abbrev cX0_fewestTuned : ByteArray := prog_2_method_3_code
def yX0_fewestTuned : MethodName := ⟨RX0, "fewestTuned", "()I"⟩
abbrev cX0_fewestEars : ByteArray := prog_2_method_4_code
def yX0_fewestEars : MethodName := ⟨RX0, "fewestEars", "()I"⟩
abbrev cX0_partnerAlikes : ByteArray := prog_2_method_5_code
def yX0_partnerAlikes : MethodName := ⟨RX0, "partnerAlikes", "()V"⟩
abbrev cX0_areAlike : ByteArray := prog_2_method_6_code
def yX0_areAlike : MethodName := ⟨RX0, "areAlike", "(II)Z"⟩
abbrev cX0_fewestOfEachTwo : ByteArray := prog_2_method_7_code
def yX0_fewestOfEachTwo : MethodName := ⟨RX0, "fewestOfEachTwo", "(I)I"⟩
abbrev cX0_hasOneOfEachTwo : ByteArray := prog_2_method_8_code
def yX0_hasOneOfEachTwo : MethodName := ⟨RX0, "hasOneOfEachTwo", "(II)Z"⟩
abbrev cX0_mostMilk : ByteArray := prog_2_method_9_code
def yX0_mostMilk : MethodName := ⟨RX0, "mostMilk", "()I"⟩
abbrev cX0_fieldInHerd : ByteArray := prog_2_method_10_code
def yX0_fieldInHerd : MethodName := ⟨RX0, "fieldInHerd", "(I)I"⟩
abbrev cX0_bestField : ByteArray := prog_2_method_11_code
def yX0_bestField : MethodName := ⟨RX0, "bestField", "(II)I"⟩
abbrev cX0_measureHerds : ByteArray := prog_2_method_12_code
def yX0_measureHerds : MethodName := ⟨RX0, "measureHerds", "()V"⟩
abbrev cX0_milkWith : ByteArray := prog_2_method_13_code
def yX0_milkWith : MethodName := ⟨RX0, "milkWith", "(III)I"⟩
def RX1 : String := "HarpFences$Farm"
def TX1 : u_T := fun k => match k with
  | 0 => ("HarpFences$Farm", "land", "LHarpFences$Land;", true)
  | _ => ("HarpFences$Farm", "stand", "LHarpFences$Stand;", true)
def tyX1 : Nat → FieldType := fun k => match k with
  | 0 => .object "HarpFences$Land"
  | _ => .object "HarpFences$Stand"
theorem nmX1 : ∀ a, a < 2 → ∀ b, b < 2 → a ≠ b → (TX1 a).2.1 ≠ (TX1 b).2.1 := by decide +kernel
theorem tyX1_ok : ∀ k, k < 2 → parseFieldDescriptor (TX1 k).2.2.1 = some (tyX1 k) := by decide +kernel
abbrev cX1_init : ByteArray := prog_3_method_1_code
def yX1_init : MethodName := ⟨RX1, "<init>", "(LHarpFences$Land;LHarpFences$Stand;)V"⟩
abbrev cX1_isString : ByteArray := prog_3_method_2_code
def yX1_isString : MethodName := ⟨RX1, "isString", "(I)Z"⟩
abbrev cX1_soundTo : ByteArray := prog_3_method_3_code
def yX1_soundTo : MethodName := ⟨RX1, "soundTo", "(II)I"⟩
abbrev cX1_fifthsAt : ByteArray := prog_3_method_4_code
def yX1_fifthsAt : MethodName := ⟨RX1, "fifthsAt", "(I)I"⟩
abbrev cX1_isStringAt : ByteArray := prog_3_method_5_code
def yX1_isStringAt : MethodName := ⟨RX1, "isStringAt", "(II)Z"⟩
abbrev cX1_beastsThatSound : ByteArray := prog_3_method_6_code
def yX1_beastsThatSound : MethodName := ⟨RX1, "beastsThatSound", "(I)I"⟩
def RX2 : String := "HarpFences$Hearing"
def TX2 : u_T := fun k => match k with
  | 0 => ("HarpFences$Hearing", "farm", "LHarpFences$Farm;", true)
  | 1 => ("HarpFences$Hearing", "land", "LHarpFences$Land;", true)
  | 2 => ("HarpFences$Hearing", "sounds", "[I", true)
  | 3 => ("HarpFences$Hearing", "endsByKind", "[I", true)
  | 4 => ("HarpFences$Hearing", "rows", "[I", false)
  | 5 => ("HarpFences$Hearing", "rowsAfter", "[I", false)
  | _ => ("HarpFences$Hearing", "heard", "I", false)
def tyX2 : Nat → FieldType := fun k => match k with
  | 0 => .object "HarpFences$Farm"
  | 1 => .object "HarpFences$Land"
  | 2 => .array .int
  | 3 => .array .int
  | 4 => .array .int
  | 5 => .array .int
  | _ => .int
theorem nmX2 : ∀ a, a < 7 → ∀ b, b < 7 → a ≠ b → (TX2 a).2.1 ≠ (TX2 b).2.1 := by decide +kernel
theorem tyX2_ok : ∀ k, k < 7 → parseFieldDescriptor (TX2 k).2.2.1 = some (tyX2 k) := by decide +kernel
abbrev cX2_init : ByteArray := prog_4_method_1_code
def yX2_init : MethodName := ⟨RX2, "<init>", "(LHarpFences$Farm;)V"⟩
abbrev cX2_takes : ByteArray := prog_4_method_2_code
def yX2_takes : MethodName := ⟨RX2, "takes", "(I)Z"⟩
abbrev cX2_rowsFrom : ByteArray := prog_4_method_3_code
def yX2_rowsFrom : MethodName := ⟨RX2, "rowsFrom", "(II)I"⟩
abbrev cX2_crossAll : ByteArray := prog_4_method_4_code
def yX2_crossAll : MethodName := ⟨RX2, "crossAll", "(II)V"⟩
abbrev cX2_endsOf : ByteArray := prog_4_method_5_code
def yX2_endsOf : MethodName := ⟨RX2, "endsOf", "(I)I"⟩
abbrev cX2_endsBehind : ByteArray := prog_4_method_6_code
def yX2_endsBehind : MethodName := ⟨RX2, "endsBehind", "(III)I"⟩
abbrev cX2_kindsThatCan : ByteArray := prog_4_method_7_code
def yX2_kindsThatCan : MethodName := ⟨RX2, "kindsThatCan", "()I"⟩
abbrev cX2_fenceToWatch : ByteArray := prog_4_method_8_code
def yX2_fenceToWatch : MethodName := ⟨RX2, "fenceToWatch", "()I"⟩
abbrev cX2_greatestCrowd : ByteArray := prog_4_method_9_code
def yX2_greatestCrowd : MethodName := ⟨RX2, "greatestCrowd", "(I)I"⟩
abbrev cX2_comesTo : ByteArray := prog_4_method_10_code
def yX2_comesTo : MethodName := ⟨RX2, "comesTo", "(II)Z"⟩
def RX3 : String := "HarpFences$Image"
def TX3 : u_T := fun k => match k with
  | 0 => ("HarpFences$Image", "stand", "LHarpFences$Stand;", true)
  | 1 => ("HarpFences$Image", "past", "LHarpFences$Past;", true)
  | _ => ("HarpFences$Image", "kept", "Z", false)
def tyX3 : Nat → FieldType := fun k => match k with
  | 0 => .object "HarpFences$Stand"
  | 1 => .object "HarpFences$Past"
  | _ => .boolean
theorem nmX3 : ∀ a, a < 3 → ∀ b, b < 3 → a ≠ b → (TX3 a).2.1 ≠ (TX3 b).2.1 := by decide +kernel
theorem tyX3_ok : ∀ k, k < 3 → parseFieldDescriptor (TX3 k).2.2.1 = some (tyX3 k) := by decide +kernel
abbrev cX3_init : ByteArray := prog_5_method_1_code
def yX3_init : MethodName := ⟨RX3, "<init>", "()V"⟩
abbrev cX3_take : ByteArray := prog_5_method_2_code
def yX3_take : MethodName := ⟨RX3, "take", "(LHarpFences$Stand;LHarpFences$Past;)V"⟩
abbrev cX3_give : ByteArray := prog_5_method_3_code
def yX3_give : MethodName := ⟨RX3, "give", "(LHarpFences$Stand;LHarpFences$Past;)V"⟩
def RX4 : String := "HarpFences$Land"
def TX4 : u_T := fun k => match k with
  | 0 => ("HarpFences$Land", "fields", "I", false)
  | 1 => ("HarpFences$Land", "fences", "I", false)
  | 2 => ("HarpFences$Land", "first", "[I", true)
  | 3 => ("HarpFences$Land", "second", "[I", true)
  | 4 => ("HarpFences$Land", "pitch", "[I", true)
  | 5 => ("HarpFences$Land", "kinds", "I", false)
  | 6 => ("HarpFences$Land", "voice", "[I", true)
  | 7 => ("HarpFences$Land", "milk", "[I", true)
  | 8 => ("HarpFences$Land", "beasts", "I", false)
  | 9 => ("HarpFences$Land", "kindOf", "[I", true)
  | 10 => ("HarpFences$Land", "field", "[I", true)
  | _ => ("HarpFences$Land", "wet", "I", false)
def tyX4 : Nat → FieldType := fun k => match k with
  | 0 => .int
  | 1 => .int
  | 2 => .array .int
  | 3 => .array .int
  | 4 => .array .int
  | 5 => .int
  | 6 => .array .int
  | 7 => .array .int
  | 8 => .int
  | 9 => .array .int
  | 10 => .array .int
  | _ => .int
theorem nmX4 : ∀ a, a < 12 → ∀ b, b < 12 → a ≠ b → (TX4 a).2.1 ≠ (TX4 b).2.1 := by decide +kernel
theorem tyX4_ok : ∀ k, k < 12 → parseFieldDescriptor (TX4 k).2.2.1 = some (tyX4 k) := by decide +kernel
abbrev cX4_init : ByteArray := prog_6_method_1_code
def yX4_init : MethodName := ⟨RX4, "<init>", "()V"⟩
abbrev cX4_begin : ByteArray := prog_6_method_2_code
def yX4_begin : MethodName := ⟨RX4, "begin", "()V"⟩
abbrev cX4_copyFrom : ByteArray := prog_6_method_3_code
def yX4_copyFrom : MethodName := ⟨RX4, "copyFrom", "(LHarpFences$Land;)V"⟩
abbrev cX4_isAt : ByteArray := prog_6_method_4_code
def yX4_isAt : MethodName := ⟨RX4, "isAt", "(II)Z"⟩
abbrev cX4_across : ByteArray := prog_6_method_5_code
def yX4_across : MethodName := ⟨RX4, "across", "(II)I"⟩
abbrev cX4_endBits : ByteArray := prog_6_method_6_code
def yX4_endBits : MethodName := ⟨RX4, "endBits", "(I)I"⟩
def RX5 : String := "HarpFences$Past"
def TX5 : u_T := fun k => match k with
  | 0 => ("HarpFences$Past", "ahead", "[LHarpFences$Stand;", true)
  | 1 => ("HarpFences$Past", "latest", "I", false)
  | _ => ("HarpFences$Past", "known", "I", false)
def tyX5 : Nat → FieldType := fun k => match k with
  | 0 => .array (.object "HarpFences$Stand")
  | 1 => .int
  | _ => .int
theorem nmX5 : ∀ a, a < 3 → ∀ b, b < 3 → a ≠ b → (TX5 a).2.1 ≠ (TX5 b).2.1 := by decide +kernel
theorem tyX5_ok : ∀ k, k < 3 → parseFieldDescriptor (TX5 k).2.2.1 = some (tyX5 k) := by decide +kernel
abbrev cX5_init : ByteArray := prog_7_method_1_code
def yX5_init : MethodName := ⟨RX5, "<init>", "()V"⟩
abbrev cX5_note : ByteArray := prog_7_method_2_code
def yX5_note : MethodName := ⟨RX5, "note", "(LHarpFences$Stand;)V"⟩
abbrev cX5_restore : ByteArray := prog_7_method_3_code
def yX5_restore : MethodName := ⟨RX5, "restore", "(LHarpFences$Stand;)V"⟩
abbrev cX5_copyFrom : ByteArray := prog_7_method_4_code
def yX5_copyFrom : MethodName := ⟨RX5, "copyFrom", "(LHarpFences$Past;)V"⟩
def RX6 : String := "HarpFences$Paths"
def TX6 : u_T := fun k => match k with
  | 0 => ("HarpFences$Paths", "farm", "LHarpFences$Farm;", true)
  | 1 => ("HarpFences$Paths", "land", "LHarpFences$Land;", true)
  | 2 => ("HarpFences$Paths", "costs", "[I", true)
  | 3 => ("HarpFences$Paths", "snapping", "[I", true)
  | 4 => ("HarpFences$Paths", "snappers", "I", false)
  | _ => ("HarpFences$Paths", "silent", "I", false)
def tyX6 : Nat → FieldType := fun k => match k with
  | 0 => .object "HarpFences$Farm"
  | 1 => .object "HarpFences$Land"
  | 2 => .array .int
  | 3 => .array .int
  | 4 => .int
  | _ => .int
theorem nmX6 : ∀ a, a < 6 → ∀ b, b < 6 → a ≠ b → (TX6 a).2.1 ≠ (TX6 b).2.1 := by decide +kernel
theorem tyX6_ok : ∀ k, k < 6 → parseFieldDescriptor (TX6 k).2.2.1 = some (tyX6 k) := by decide +kernel
abbrev cX6_init : ByteArray := prog_8_method_1_code
def yX6_init : MethodName := ⟨RX6, "<init>", "(LHarpFences$Farm;)V"⟩
abbrev cX6_fewestHeard : ByteArray := prog_8_method_2_code
def yX6_fewestHeard : MethodName := ⟨RX6, "fewestHeard", "(III)I"⟩
abbrev cX6_fewestCrossings : ByteArray := prog_8_method_3_code
def yX6_fewestCrossings : MethodName := ⟨RX6, "fewestCrossings", "(III)I"⟩
abbrev cX6_firstFence : ByteArray := prog_8_method_4_code
def yX6_firstFence : MethodName := ⟨RX6, "firstFence", "(III)I"⟩
abbrev cX6_costOf : ByteArray := prog_8_method_5_code
def yX6_costOf : MethodName := ⟨RX6, "costOf", "(II)I"⟩
abbrev cX6_measure : ByteArray := prog_8_method_6_code
def yX6_measure : MethodName := ⟨RX6, "measure", "(II)V"⟩
abbrev cX6_frostParts : ByteArray := prog_8_method_7_code
def yX6_frostParts : MethodName := ⟨RX6, "frostParts", "(II)I"⟩
abbrev cX6_frostUnheard : ByteArray := prog_8_method_8_code
def yX6_frostUnheard : MethodName := ⟨RX6, "frostUnheard", "(III)I"⟩
abbrev cX6_snappedFences : ByteArray := prog_8_method_9_code
def yX6_snappedFences : MethodName := ⟨RX6, "snappedFences", "(I)I"⟩
abbrev cX6_reaches : ByteArray := prog_8_method_10_code
def yX6_reaches : MethodName := ⟨RX6, "reaches", "(III)Z"⟩
abbrev cX6_power : ByteArray := prog_8_method_11_code
def yX6_power : MethodName := ⟨RX6, "power", "(II)I"⟩
abbrev cX6_commonDivisor : ByteArray := prog_8_method_12_code
def yX6_commonDivisor : MethodName := ⟨RX6, "commonDivisor", "(II)I"⟩
def RX7 : String := "HarpFences$Stand"
def TX7 : u_T := fun k => match k with
  | 0 => ("HarpFences$Stand", "field", "[I", true)
  | 1 => ("HarpFences$Stand", "pitch", "[I", true)
  | 2 => ("HarpFences$Stand", "song", "[I", true)
  | 3 => ("HarpFences$Stand", "sung", "I", false)
  | 4 => ("HarpFences$Stand", "cut", "I", false)
  | 5 => ("HarpFences$Stand", "down", "I", false)
  | _ => ("HarpFences$Stand", "wet", "I", false)
def tyX7 : Nat → FieldType := fun k => match k with
  | 0 => .array .int
  | 1 => .array .int
  | 2 => .array .int
  | 3 => .int
  | 4 => .int
  | 5 => .int
  | _ => .int
theorem nmX7 : ∀ a, a < 7 → ∀ b, b < 7 → a ≠ b → (TX7 a).2.1 ≠ (TX7 b).2.1 := by decide +kernel
theorem tyX7_ok : ∀ k, k < 7 → parseFieldDescriptor (TX7 k).2.2.1 = some (tyX7 k) := by decide +kernel
abbrev cX7_init : ByteArray := prog_9_method_1_code
def yX7_init : MethodName := ⟨RX7, "<init>", "()V"⟩
abbrev cX7_begin : ByteArray := prog_9_method_2_code
def yX7_begin : MethodName := ⟨RX7, "begin", "(LHarpFences$Land;)V"⟩
abbrev cX7_copyFrom : ByteArray := prog_9_method_3_code
def yX7_copyFrom : MethodName := ⟨RX7, "copyFrom", "(LHarpFences$Stand;)V"⟩
abbrev cX7_sing : ByteArray := prog_9_method_4_code
def yX7_sing : MethodName := ⟨RX7, "sing", "(I)V"⟩
def RX8 : String := "HarpFences$Text"
def TX8 : u_T := fun k => match k with
  | 0 => ("HarpFences$Text", "bytes", "[I", true)
  | 1 => ("HarpFences$Text", "length", "I", false)
  | 2 => ("HarpFences$Text", "place", "I", false)
  | 3 => ("HarpFences$Text", "token", "I", false)
  | 4 => ("HarpFences$Text", "start", "I", false)
  | 5 => ("HarpFences$Text", "value", "I", false)
  | _ => ("HarpFences$Text", "wetTold", "Z", false)
def tyX8 : Nat → FieldType := fun k => match k with
  | 0 => .array .int
  | 1 => .int
  | 2 => .int
  | 3 => .int
  | 4 => .int
  | 5 => .int
  | _ => .boolean
theorem nmX8 : ∀ a, a < 7 → ∀ b, b < 7 → a ≠ b → (TX8 a).2.1 ≠ (TX8 b).2.1 := by decide +kernel
theorem tyX8_ok : ∀ k, k < 7 → parseFieldDescriptor (TX8 k).2.2.1 = some (tyX8 k) := by decide +kernel
abbrev cX8_init : ByteArray := prog_10_method_1_code
def yX8_init : MethodName := ⟨RX8, "<init>", "()V"⟩
abbrev cX8_takes : ByteArray := prog_10_method_2_code
def yX8_takes : MethodName := ⟨RX8, "takes", "(I)Z"⟩
abbrev cX8_tell : ByteArray := prog_10_method_3_code
def yX8_tell : MethodName := ⟨RX8, "tell", "(LHarpFences$Land;)I"⟩
abbrev cX8_tellsFields : ByteArray := prog_10_method_4_code
def yX8_tellsFields : MethodName := ⟨RX8, "tellsFields", "(LHarpFences$Land;)Z"⟩
abbrev cX8_tellsFence : ByteArray := prog_10_method_5_code
def yX8_tellsFence : MethodName := ⟨RX8, "tellsFence", "(LHarpFences$Land;)Z"⟩
abbrev cX8_tellsKind : ByteArray := prog_10_method_6_code
def yX8_tellsKind : MethodName := ⟨RX8, "tellsKind", "(LHarpFences$Land;)Z"⟩
abbrev cX8_tellsBeast : ByteArray := prog_10_method_7_code
def yX8_tellsBeast : MethodName := ⟨RX8, "tellsBeast", "(LHarpFences$Land;)Z"⟩
abbrev cX8_tellsWet : ByteArray := prog_10_method_8_code
def yX8_tellsWet : MethodName := ⟨RX8, "tellsWet", "(LHarpFences$Land;)Z"⟩
abbrev cX8_number : ByteArray := prog_10_method_9_code
def yX8_number : MethodName := ⟨RX8, "number", "(II)Z"⟩
abbrev cX8_stops : ByteArray := prog_10_method_10_code
def yX8_stops : MethodName := ⟨RX8, "stops", "()Z"⟩
abbrev cX8_step : ByteArray := prog_10_method_11_code
def yX8_step : MethodName := ⟨RX8, "step", "()V"⟩
abbrev cX8_stepLetters : ByteArray := prog_10_method_12_code
def yX8_stepLetters : MethodName := ⟨RX8, "stepLetters", "()V"⟩
abbrev cX8_stepNumber : ByteArray := prog_10_method_13_code
def yX8_stepNumber : MethodName := ⟨RX8, "stepNumber", "()V"⟩
abbrev cX8_isLetter : ByteArray := prog_10_method_14_code
def yX8_isLetter : MethodName := ⟨RX8, "isLetter", "(I)Z"⟩
abbrev cX8_isDigit : ByteArray := prog_10_method_15_code
def yX8_isDigit : MethodName := ⟨RX8, "isDigit", "(I)Z"⟩
def RX9 : String := "HarpFences"
def TX9 : u_T := fun k => match k with
  | 0 => ("HarpFences", "text", "LHarpFences$Text;", true)
  | 1 => ("HarpFences", "land", "LHarpFences$Land;", true)
  | 2 => ("HarpFences", "draft", "LHarpFences$Land;", true)
  | 3 => ("HarpFences", "stand", "LHarpFences$Stand;", true)
  | 4 => ("HarpFences", "farm", "LHarpFences$Farm;", true)
  | 5 => ("HarpFences", "past", "LHarpFences$Past;", true)
  | 6 => ("HarpFences", "images", "[LHarpFences$Image;", true)
  | 7 => ("HarpFences", "hearing", "LHarpFences$Hearing;", true)
  | 8 => ("HarpFences", "paths", "LHarpFences$Paths;", true)
  | 9 => ("HarpFences", "choices", "LHarpFences$Choices;", true)
  | _ => ("HarpFences", "traced", "J", false)
def tyX9 : Nat → FieldType := fun k => match k with
  | 0 => .object "HarpFences$Text"
  | 1 => .object "HarpFences$Land"
  | 2 => .object "HarpFences$Land"
  | 3 => .object "HarpFences$Stand"
  | 4 => .object "HarpFences$Farm"
  | 5 => .object "HarpFences$Past"
  | 6 => .array (.object "HarpFences$Image")
  | 7 => .object "HarpFences$Hearing"
  | 8 => .object "HarpFences$Paths"
  | 9 => .object "HarpFences$Choices"
  | _ => .long
theorem nmX9 : ∀ a, a < 11 → ∀ b, b < 11 → a ≠ b → (TX9 a).2.1 ≠ (TX9 b).2.1 := by decide +kernel
theorem tyX9_ok : ∀ k, k < 11 → parseFieldDescriptor (TX9 k).2.2.1 = some (tyX9 k) := by decide +kernel
abbrev cX9_init : ByteArray := prog_1_method_1_code
def yX9_init : MethodName := ⟨RX9, "<init>", "()V"⟩
abbrev cX9_type : ByteArray := prog_1_method_2_code
def yX9_type : MethodName := ⟨RX9, "type", "(I)I"⟩
abbrev cX9_clear : ByteArray := prog_1_method_3_code
def yX9_clear : MethodName := ⟨RX9, "clear", "()I"⟩
abbrev cX9_downs : ByteArray := prog_1_method_4_code
def yX9_downs : MethodName := ⟨RX9, "downs", "()I"⟩
abbrev cX9_fence : ByteArray := prog_1_method_5_code
def yX9_fence : MethodName := ⟨RX9, "fence", "(II)I"⟩
abbrev cX9_kind : ByteArray := prog_1_method_6_code
def yX9_kind : MethodName := ⟨RX9, "kind", "(II)I"⟩
abbrev cX9_beast : ByteArray := prog_1_method_7_code
def yX9_beast : MethodName := ⟨RX9, "beast", "(II)I"⟩
abbrev cX9_sound : ByteArray := prog_1_method_8_code
def yX9_sound : MethodName := ⟨RX9, "sound", "(II)I"⟩
abbrev cX9_goes : ByteArray := prog_1_method_9_code
def yX9_goes : MethodName := ⟨RX9, "goes", "(II)I"⟩
abbrev cX9_cuts : ByteArray := prog_1_method_10_code
def yX9_cuts : MethodName := ⟨RX9, "cuts", "(II)I"⟩
abbrev cX9_tunes : ByteArray := prog_1_method_11_code
def yX9_tunes : MethodName := ⟨RX9, "tunes", "(II)I"⟩
abbrev cX9_lays : ByteArray := prog_1_method_12_code
def yX9_lays : MethodName := ⟨RX9, "lays", "(I)I"⟩
abbrev cX9_rains : ByteArray := prog_1_method_13_code
def yX9_rains : MethodName := ⟨RX9, "rains", "(I)I"⟩
abbrev cX9_undo : ByteArray := prog_1_method_14_code
def yX9_undo : MethodName := ⟨RX9, "undo", "()I"⟩
abbrev cX9_now : ByteArray := prog_1_method_15_code
def yX9_now : MethodName := ⟨RX9, "now", "(I)I"⟩
abbrev cX9_song : ByteArray := prog_1_method_16_code
def yX9_song : MethodName := ⟨RX9, "song", "(I)I"⟩
abbrev cX9_who : ByteArray := prog_1_method_17_code
def yX9_who : MethodName := ⟨RX9, "who", "(I)I"⟩
abbrev cX9_hears : ByteArray := prog_1_method_18_code
def yX9_hears : MethodName := ⟨RX9, "hears", "(I)I"⟩
abbrev cX9_forget : ByteArray := prog_1_method_19_code
def yX9_forget : MethodName := ⟨RX9, "forget", "()I"⟩
abbrev cX9_ways : ByteArray := prog_1_method_20_code
def yX9_ways : MethodName := ⟨RX9, "ways", "(II)I"⟩
abbrev cX9_ends : ByteArray := prog_1_method_21_code
def yX9_ends : MethodName := ⟨RX9, "ends", "(I)I"⟩
abbrev cX9_can : ByteArray := prog_1_method_22_code
def yX9_can : MethodName := ⟨RX9, "can", "()I"⟩
abbrev cX9_ask : ByteArray := prog_1_method_23_code
def yX9_ask : MethodName := ⟨RX9, "ask", "()I"⟩
abbrev cX9_quiet : ByteArray := prog_1_method_24_code
def yX9_quiet : MethodName := ⟨RX9, "quiet", "(IIII)I"⟩
abbrev cX9_fifths : ByteArray := prog_1_method_25_code
def yX9_fifths : MethodName := ⟨RX9, "fifths", "(I)I"⟩
abbrev cX9_herd : ByteArray := prog_1_method_26_code
def yX9_herd : MethodName := ⟨RX9, "herd", "(I)I"⟩
abbrev cX9_frost : ByteArray := prog_1_method_27_code
def yX9_frost : MethodName := ⟨RX9, "frost", "(IIIIII)I"⟩
abbrev cX9_mark : ByteArray := prog_1_method_28_code
def yX9_mark : MethodName := ⟨RX9, "mark", "(II)I"⟩
abbrev cX9_keep : ByteArray := prog_1_method_29_code
def yX9_keep : MethodName := ⟨RX9, "keep", "(I)I"⟩
abbrev cX9_back : ByteArray := prog_1_method_30_code
def yX9_back : MethodName := ⟨RX9, "back", "(I)I"⟩
abbrev cX9_count : ByteArray := prog_1_method_31_code
def yX9_count : MethodName := ⟨RX9, "count", "(I)I"⟩
abbrev cX9_trace : ByteArray := prog_1_method_32_code
def yX9_trace : MethodName := ⟨RX9, "trace", "()J"⟩
abbrev cX9_beginAnew : ByteArray := prog_1_method_33_code
def yX9_beginAnew : MethodName := ⟨RX9, "beginAnew", "()V"⟩
abbrev cX9_isField : ByteArray := prog_1_method_34_code
def yX9_isField : MethodName := ⟨RX9, "isField", "(I)Z"⟩
abbrev cX9_isFence : ByteArray := prog_1_method_35_code
def yX9_isFence : MethodName := ⟨RX9, "isFence", "(I)Z"⟩
abbrev cX9_isKind : ByteArray := prog_1_method_36_code
def yX9_isKind : MethodName := ⟨RX9, "isKind", "(I)Z"⟩
abbrev cX9_isBeast : ByteArray := prog_1_method_37_code
def yX9_isBeast : MethodName := ⟨RX9, "isBeast", "(I)Z"⟩
abbrev cX9_isImage : ByteArray := prog_1_method_38_code
def yX9_isImage : MethodName := ⟨RX9, "isImage", "(I)Z"⟩
abbrev cX9_isFlag : ByteArray := prog_1_method_39_code
def yX9_isFlag : MethodName := ⟨RX9, "isFlag", "(I)Z"⟩
abbrev cX9_markString : ByteArray := prog_1_method_40_code
def yX9_markString : MethodName := ⟨RX9, "markString", "(I)I"⟩
abbrev cX9_markBass : ByteArray := prog_1_method_41_code
def yX9_markBass : MethodName := ⟨RX9, "markBass", "(I)I"⟩
abbrev cX9_markTreble : ByteArray := prog_1_method_42_code
def yX9_markTreble : MethodName := ⟨RX9, "markTreble", "(I)I"⟩
abbrev cX9_markBull : ByteArray := prog_1_method_43_code
def yX9_markBull : MethodName := ⟨RX9, "markBull", "(I)I"⟩
abbrev cX9_markLark : ByteArray := prog_1_method_44_code
def yX9_markLark : MethodName := ⟨RX9, "markLark", "(I)I"⟩
abbrev cX9_markPedal : ByteArray := prog_1_method_45_code
def yX9_markPedal : MethodName := ⟨RX9, "markPedal", "(I)I"⟩
def RX10 : String := "HarpFencesModel"
def TX10 : u_T := fun k => match k with
  | 0 => ("HarpFencesModel", "text", "[B", true)
  | 1 => ("HarpFencesModel", "typed", "I", false)
  | 2 => ("HarpFencesModel", "fields", "[I", true)
  | 3 => ("HarpFencesModel", "fences", "[I", true)
  | 4 => ("HarpFencesModel", "left", "[I", true)
  | 5 => ("HarpFencesModel", "right", "[I", true)
  | 6 => ("HarpFencesModel", "firstPitch", "[I", true)
  | 7 => ("HarpFencesModel", "kinds", "[I", true)
  | 8 => ("HarpFencesModel", "voice", "[I", true)
  | 9 => ("HarpFencesModel", "milk", "[I", true)
  | 10 => ("HarpFencesModel", "beasts", "[I", true)
  | 11 => ("HarpFencesModel", "kindOf", "[I", true)
  | 12 => ("HarpFencesModel", "firstField", "[I", true)
  | 13 => ("HarpFencesModel", "firstWet", "[I", true)
  | 14 => ("HarpFencesModel", "at", "I", false)
  | 15 => ("HarpFencesModel", "place", "I", false)
  | 16 => ("HarpFencesModel", "sort", "I", false)
  | 17 => ("HarpFencesModel", "value", "I", false)
  | 18 => ("HarpFencesModel", "isWrong", "Z", false)
  | 19 => ("HarpFencesModel", "items", "I", false)
  | 20 => ("HarpFencesModel", "now", "[I", true)
  | 21 => ("HarpFencesModel", "known", "[I", true)
  | 22 => ("HarpFencesModel", "before", "[I", true)
  | 23 => ("HarpFencesModel", "store", "[I", true)
  | 24 => ("HarpFencesModel", "isKept", "[Z", true)
  | 25 => ("HarpFencesModel", "ear", "[I", true)
  | 26 => ("HarpFencesModel", "heard", "I", false)
  | 27 => ("HarpFencesModel", "many", "[I", true)
  | 28 => ("HarpFencesModel", "next", "[I", true)
  | 29 => ("HarpFencesModel", "far", "[I", true)
  | 30 => ("HarpFencesModel", "most", "[I", true)
  | _ => ("HarpFencesModel", "trace", "J", false)
def tyX10 : Nat → FieldType := fun k => match k with
  | 0 => .array .byte
  | 1 => .int
  | 2 => .array .int
  | 3 => .array .int
  | 4 => .array .int
  | 5 => .array .int
  | 6 => .array .int
  | 7 => .array .int
  | 8 => .array .int
  | 9 => .array .int
  | 10 => .array .int
  | 11 => .array .int
  | 12 => .array .int
  | 13 => .array .int
  | 14 => .int
  | 15 => .int
  | 16 => .int
  | 17 => .int
  | 18 => .boolean
  | 19 => .int
  | 20 => .array .int
  | 21 => .array .int
  | 22 => .array .int
  | 23 => .array .int
  | 24 => .array .boolean
  | 25 => .array .int
  | 26 => .int
  | 27 => .array .int
  | 28 => .array .int
  | 29 => .array .int
  | 30 => .array .int
  | _ => .long
theorem nmX10 : ∀ a, a < 32 → ∀ b, b < 32 → a ≠ b → (TX10 a).2.1 ≠ (TX10 b).2.1 := by decide +kernel
theorem tyX10_ok : ∀ k, k < 32 → parseFieldDescriptor (TX10 k).2.2.1 = some (tyX10 k) := by decide +kernel
abbrev cX10_init : ByteArray := prog_12_method_1_code
def yX10_init : MethodName := ⟨RX10, "<init>", "()V"⟩
abbrev cX10_in : ByteArray := prog_12_method_3_code
def yX10_in : MethodName := ⟨RX10, "in", "(III)Z"⟩
abbrev cX10_has : ByteArray := prog_12_method_4_code
def yX10_has : MethodName := ⟨RX10, "has", "(II)Z"⟩
abbrev cX10_type : ByteArray := prog_12_method_5_code
def yX10_type : MethodName := ⟨RX10, "type", "(I)I"⟩
abbrev cX10_clear : ByteArray := prog_12_method_6_code
def yX10_clear : MethodName := ⟨RX10, "clear", "()I"⟩
abbrev cX10_here : ByteArray := prog_12_method_7_code
def yX10_here : MethodName := ⟨RX10, "here", "()I"⟩
abbrev cX10_step : ByteArray := prog_12_method_8_code
def yX10_step : MethodName := ⟨RX10, "step", "()V"⟩
abbrev cX10_due : ByteArray := prog_12_method_9_code
def yX10_due : MethodName := ⟨RX10, "due", "(Z)V"⟩
abbrev cX10_number : ByteArray := prog_12_method_10_code
def yX10_number : MethodName := ⟨RX10, "number", "(II)I"⟩
abbrev cX10_item : ByteArray := prog_12_method_11_code
def yX10_item : MethodName := ⟨RX10, "item", "(I)V"⟩
abbrev cX10_may : ByteArray := prog_12_method_12_code
def yX10_may : MethodName := ⟨RX10, "may", "(IZ)Z"⟩
abbrev cX10_read : ByteArray := prog_12_method_13_code
def yX10_read : MethodName := ⟨RX10, "read", "()V"⟩
abbrev cX10_downs : ByteArray := prog_12_method_14_code
def yX10_downs : MethodName := ⟨RX10, "downs", "()I"⟩
abbrev cX10_isField : ByteArray := prog_12_method_15_code
def yX10_isField : MethodName := ⟨RX10, "isField", "(I)Z"⟩
abbrev cX10_isFence : ByteArray := prog_12_method_16_code
def yX10_isFence : MethodName := ⟨RX10, "isFence", "(I)Z"⟩
abbrev cX10_isKind : ByteArray := prog_12_method_17_code
def yX10_isKind : MethodName := ⟨RX10, "isKind", "(I)Z"⟩
abbrev cX10_isBeast : ByteArray := prog_12_method_18_code
def yX10_isBeast : MethodName := ⟨RX10, "isBeast", "(I)Z"⟩
abbrev cX10_soundOf : ByteArray := prog_12_method_19_code
def yX10_soundOf : MethodName := ⟨RX10, "soundOf", "(II)I"⟩
abbrev cX10_isAt : ByteArray := prog_12_method_20_code
def yX10_isAt : MethodName := ⟨RX10, "isAt", "(II)Z"⟩
abbrev cX10_across : ByteArray := prog_12_method_21_code
def yX10_across : MethodName := ⟨RX10, "across", "(II)I"⟩
abbrev cX10_isString : ByteArray := prog_12_method_22_code
def yX10_isString : MethodName := ⟨RX10, "isString", "(I)Z"⟩
abbrev cX10_bitsOf : ByteArray := prog_12_method_23_code
def yX10_bitsOf : MethodName := ⟨RX10, "bitsOf", "(I)I"⟩
abbrev cX10_allOf : ByteArray := prog_12_method_24_code
def yX10_allOf : MethodName := ⟨RX10, "allOf", "(I)I"⟩
abbrev cX10_fence : ByteArray := prog_12_method_25_code
def yX10_fence : MethodName := ⟨RX10, "fence", "(II)I"⟩
abbrev cX10_kind : ByteArray := prog_12_method_26_code
def yX10_kind : MethodName := ⟨RX10, "kind", "(II)I"⟩
abbrev cX10_beast : ByteArray := prog_12_method_27_code
def yX10_beast : MethodName := ⟨RX10, "beast", "(II)I"⟩
abbrev cX10_sound : ByteArray := prog_12_method_28_code
def yX10_sound : MethodName := ⟨RX10, "sound", "(II)I"⟩
abbrev cX10_know : ByteArray := prog_12_method_29_code
def yX10_know : MethodName := ⟨RX10, "know", "()V"⟩
abbrev cX10_sing : ByteArray := prog_12_method_30_code
def yX10_sing : MethodName := ⟨RX10, "sing", "(I)V"⟩
abbrev cX10_goes : ByteArray := prog_12_method_31_code
def yX10_goes : MethodName := ⟨RX10, "goes", "(II)I"⟩
abbrev cX10_cuts : ByteArray := prog_12_method_32_code
def yX10_cuts : MethodName := ⟨RX10, "cuts", "(II)I"⟩
abbrev cX10_tunes : ByteArray := prog_12_method_33_code
def yX10_tunes : MethodName := ⟨RX10, "tunes", "(II)I"⟩
abbrev cX10_lays : ByteArray := prog_12_method_34_code
def yX10_lays : MethodName := ⟨RX10, "lays", "(I)I"⟩
abbrev cX10_rains : ByteArray := prog_12_method_35_code
def yX10_rains : MethodName := ⟨RX10, "rains", "(I)I"⟩
abbrev cX10_undo : ByteArray := prog_12_method_36_code
def yX10_undo : MethodName := ⟨RX10, "undo", "()I"⟩
abbrev cX10_areAlike : ByteArray := prog_12_method_37_code
def yX10_areAlike : MethodName := ⟨RX10, "areAlike", "(II)Z"⟩
abbrev cX10_alike : ByteArray := prog_12_method_38_code
def yX10_alike : MethodName := ⟨RX10, "alike", "()I"⟩
abbrev cX10_areApart : ByteArray := prog_12_method_39_code
def yX10_areApart : MethodName := ⟨RX10, "areApart", "(I)Z"⟩
abbrev cX10_areHeard : ByteArray := prog_12_method_40_code
def yX10_areHeard : MethodName := ⟨RX10, "areHeard", "(I)Z"⟩
abbrev cX10_fewest : ByteArray := prog_12_method_41_code
def yX10_fewest : MethodName := ⟨RX10, "fewest", "(I)I"⟩
abbrev cX10_now : ByteArray := prog_12_method_42_code
def yX10_now : MethodName := ⟨RX10, "now", "(I)I"⟩
abbrev cX10_song : ByteArray := prog_12_method_43_code
def yX10_song : MethodName := ⟨RX10, "song", "(I)I"⟩
abbrev cX10_who : ByteArray := prog_12_method_44_code
def yX10_who : MethodName := ⟨RX10, "who", "(I)I"⟩
abbrev cX10_hears : ByteArray := prog_12_method_45_code
def yX10_hears : MethodName := ⟨RX10, "hears", "(I)I"⟩
abbrev cX10_forget : ByteArray := prog_12_method_46_code
def yX10_forget : MethodName := ⟨RX10, "forget", "()I"⟩
abbrev cX10_ways : ByteArray := prog_12_method_47_code
def yX10_ways : MethodName := ⟨RX10, "ways", "(II)I"⟩
abbrev cX10_endsOf : ByteArray := prog_12_method_48_code
def yX10_endsOf : MethodName := ⟨RX10, "endsOf", "(I)I"⟩
abbrev cX10_ends : ByteArray := prog_12_method_49_code
def yX10_ends : MethodName := ⟨RX10, "ends", "(I)I"⟩
abbrev cX10_can : ByteArray := prog_12_method_50_code
def yX10_can : MethodName := ⟨RX10, "can", "()I"⟩
abbrev cX10_comesTo : ByteArray := prog_12_method_51_code
def yX10_comesTo : MethodName := ⟨RX10, "comesTo", "(II)Z"⟩
abbrev cX10_ask : ByteArray := prog_12_method_52_code
def yX10_ask : MethodName := ⟨RX10, "ask", "()I"⟩
abbrev cX10_costOf : ByteArray := prog_12_method_53_code
def yX10_costOf : MethodName := ⟨RX10, "costOf", "(II)I"⟩
abbrev cX10_measure : ByteArray := prog_12_method_54_code
def yX10_measure : MethodName := ⟨RX10, "measure", "(II)V"⟩
abbrev cX10_quiet : ByteArray := prog_12_method_55_code
def yX10_quiet : MethodName := ⟨RX10, "quiet", "(IIII)I"⟩
abbrev cX10_fifthsOf : ByteArray := prog_12_method_56_code
def yX10_fifthsOf : MethodName := ⟨RX10, "fifthsOf", "(I)I"⟩
abbrev cX10_fifths : ByteArray := prog_12_method_57_code
def yX10_fifths : MethodName := ⟨RX10, "fifths", "(I)I"⟩
abbrev cX10_milkBy : ByteArray := prog_12_method_58_code
def yX10_milkBy : MethodName := ⟨RX10, "milkBy", "(III)I"⟩
abbrev cX10_herd : ByteArray := prog_12_method_59_code
def yX10_herd : MethodName := ⟨RX10, "herd", "(I)I"⟩
abbrev cX10_isUnheard : ByteArray := prog_12_method_60_code
def yX10_isUnheard : MethodName := ⟨RX10, "isUnheard", "(IIII)Z"⟩
abbrev cX10_frost : ByteArray := prog_12_method_61_code
def yX10_frost : MethodName := ⟨RX10, "frost", "(IIIIII)I"⟩
abbrev cX10_bodiesOf : ByteArray := prog_12_method_62_code
def yX10_bodiesOf : MethodName := ⟨RX10, "bodiesOf", "(I)I"⟩
abbrev cX10_mark : ByteArray := prog_12_method_63_code
def yX10_mark : MethodName := ⟨RX10, "mark", "(II)I"⟩
abbrev cX10_trace : ByteArray := prog_12_method_64_code
def yX10_trace : MethodName := ⟨RX10, "trace", "()J"⟩
abbrev cX10_keep : ByteArray := prog_12_method_65_code
def yX10_keep : MethodName := ⟨RX10, "keep", "(I)I"⟩
abbrev cX10_back : ByteArray := prog_12_method_66_code
def yX10_back : MethodName := ⟨RX10, "back", "(I)I"⟩
abbrev cX10_count : ByteArray := prog_12_method_67_code
def yX10_count : MethodName := ⟨RX10, "count", "(I)I"⟩
def RJ6 : String := "java/lang/Integer"
def TJ6 : u_T := fun k => match k with
  | _ => ("", "", "", false)
def tyJ6 : Nat → FieldType := fun k => match k with
  | _ => .int
theorem nmJ6 : ∀ a, a < 0 → ∀ b, b < 0 → a ≠ b → (TJ6 a).2.1 ≠ (TJ6 b).2.1 := by decide +kernel
theorem tyJ6_ok : ∀ k, k < 0 → parseFieldDescriptor (TJ6 k).2.2.1 = some (tyJ6 k) := by decide +kernel
abbrev cJ6_bitCount_0f7a4 : ByteArray := prog_13_method_49_code
def yJ6_bitCount_0f7a4 : MethodName := ⟨RJ6, "bitCount", "(I)I"⟩
def RJ9 : String := "java/lang/Math"
def TJ9 : u_T := fun k => match k with
  | _ => ("", "", "", false)
def tyJ9 : Nat → FieldType := fun k => match k with
  | _ => .int
theorem nmJ9 : ∀ a, a < 0 → ∀ b, b < 0 → a ≠ b → (TJ9 a).2.1 ≠ (TJ9 b).2.1 := by decide +kernel
theorem tyJ9_ok : ∀ k, k < 0 → parseFieldDescriptor (TJ9 k).2.2.1 = some (tyJ9 k) := by decide +kernel
abbrev cJ9_abs_0f7a4 : ByteArray := prog_14_method_59_code
def yJ9_abs_0f7a4 : MethodName := ⟨RJ9, "abs", "(I)I"⟩
abbrev cJ9_max_7cf53 : ByteArray := prog_14_method_65_code
def yJ9_max_7cf53 : MethodName := ⟨RJ9, "max", "(II)I"⟩
abbrev cJ9_min_7cf53 : ByteArray := prog_14_method_69_code
def yJ9_min_7cf53 : MethodName := ⟨RJ9, "min", "(II)I"⟩
def RJ10 : String := "java/lang/System"
def TJ10 : u_T := fun k => match k with
  | _ => ("", "", "", false)
def tyJ10 : Nat → FieldType := fun k => match k with
  | _ => .int
theorem nmJ10 : ∀ a, a < 0 → ∀ b, b < 0 → a ≠ b → (TJ10 a).2.1 ≠ (TJ10 b).2.1 := by decide +kernel
theorem tyJ10_ok : ∀ k, k < 0 → parseFieldDescriptor (TJ10 k).2.2.1 = some (tyJ10 k) := by decide +kernel
def RL : String := "HarpFencesLaw"
abbrev cL_law : ByteArray := code
def yL_law : MethodName := ⟨RL, "law", "([I)Z"⟩
/-! the tables of the interpreter: own class id, vwCl, methods, pool resolution, layout -/
abbrev zCl : List vw_C := [(RX0, TX0, 5), (RX1, TX1, 2), (RX2, TX2, 7), (RX3, TX3, 3), (RX4, TX4, 12), (RX5, TX5, 3), (RX6, TX6, 6), (RX7, TX7, 7), (RX8, TX8, 7), (RX9, TX9, 11), (RX10, TX10, 32)]
def zRN : Nat → String := fun k => match k with
  | 0 => RX0
  | 1 => RX1
  | 2 => RX2
  | 3 => RX3
  | 4 => RX4
  | 5 => RX5
  | 6 => RX6
  | 7 => RX7
  | 8 => RX8
  | 9 => RX9
  | 10 => RX10
  | 11 => RJ6
  | _ => RL
def zTy : Nat → Nat → FieldType := fun k => match k with
  | 0 => tyX0
  | 1 => tyX1
  | 2 => tyX2
  | 3 => tyX3
  | 4 => tyX4
  | 5 => tyX5
  | 6 => tyX6
  | 7 => tyX7
  | 8 => tyX8
  | 9 => tyX9
  | 10 => tyX10
  | _ => fun _ => .float
abbrev zMe : Type := MethodName × ByteArray × Nat × Option FieldType × Nat × Nat × Nat
def zMT : List zMe := [
  (yX0_init, cX0_init, 2, none, 0, 1, 21),
  (yX0_alike, cX0_alike, 3, (some .int), 0, 3, 65),
  (yX0_fewestTuned, cX0_fewestTuned, 1, (some .int), 0, 3, 65),
  (yX0_fewestEars, cX0_fewestEars, 2, (some .int), 0, 2, 46),
  (yX0_partnerAlikes, cX0_partnerAlikes, 3, none, 0, 2, 43),
  (yX0_areAlike, cX0_areAlike, 3, (some .boolean), 0, 1, 21),
  (yX0_fewestOfEachTwo, cX0_fewestOfEachTwo, 4, (some .int), 0, 1, 23),
  (yX0_hasOneOfEachTwo, cX0_hasOneOfEachTwo, 4, (some .boolean), 0, 0, 0),
  (yX0_mostMilk, cX0_mostMilk, 1, (some .int), 0, 4, 91),
  (yX0_fieldInHerd, cX0_fieldInHerd, 5, (some .int), 0, 4, 91),
  (yX0_bestField, cX0_bestField, 4, (some .int), 0, 1, 23),
  (yX0_measureHerds, cX0_measureHerds, 4, none, 0, 3, 68),
  (yX0_milkWith, cX0_milkWith, 4, (some .int), 0, 0, 0),
  (yX1_init, cX1_init, 3, none, 1, 1, 20),
  (yX1_isString, cX1_isString, 2, (some .boolean), 1, 0, 0),
  (yX1_soundTo, cX1_soundTo, 3, (some .int), 1, 1, 21),
  (yX1_fifthsAt, cX1_fifthsAt, 5, (some .int), 1, 2, 44),
  (yX1_isStringAt, cX1_isStringAt, 3, (some .boolean), 1, 1, 22),
  (yX1_beastsThatSound, cX1_beastsThatSound, 5, (some .int), 1, 2, 43),
  (yX2_init, cX2_init, 2, none, 2, 1, 20),
  (yX2_takes, cX2_takes, 2, (some .boolean), 2, 0, 0),
  (yX2_rowsFrom, cX2_rowsFrom, 5, (some .int), 2, 3, 68),
  (yX2_crossAll, cX2_crossAll, 6, none, 2, 2, 43),
  (yX2_endsOf, cX2_endsOf, 4, (some .int), 2, 3, 68),
  (yX2_endsBehind, cX2_endsBehind, 6, (some .int), 2, 2, 43),
  (yX2_kindsThatCan, cX2_kindsThatCan, 3, (some .int), 2, 4, 91),
  (yX2_fenceToWatch, cX2_fenceToWatch, 5, (some .int), 2, 4, 91),
  (yX2_greatestCrowd, cX2_greatestCrowd, 6, (some .int), 2, 2, 43),
  (yX2_comesTo, cX2_comesTo, 3, (some .boolean), 2, 1, 21),
  (yX3_init, cX3_init, 1, none, 3, 3, 61),
  (yX3_take, cX3_take, 3, none, 3, 3, 69),
  (yX3_give, cX3_give, 3, none, 3, 3, 69),
  (yX4_init, cX4_init, 1, none, 4, 1, 20),
  (yX4_begin, cX4_begin, 1, none, 4, 0, 0),
  (yX4_copyFrom, cX4_copyFrom, 2, none, 4, 1, 26),
  (yX4_isAt, cX4_isAt, 3, (some .boolean), 4, 0, 0),
  (yX4_across, cX4_across, 3, (some .int), 4, 0, 0),
  (yX4_endBits, cX4_endBits, 2, (some .int), 4, 0, 0),
  (yX5_init, cX5_init, 2, none, 5, 2, 40),
  (yX5_note, cX5_note, 2, none, 5, 2, 47),
  (yX5_restore, cX5_restore, 2, none, 5, 2, 47),
  (yX5_copyFrom, cX5_copyFrom, 3, none, 5, 2, 47),
  (yX6_init, cX6_init, 2, none, 6, 1, 20),
  (yX6_fewestHeard, cX6_fewestHeard, 4, (some .int), 6, 4, 92),
  (yX6_fewestCrossings, cX6_fewestCrossings, 4, (some .int), 6, 4, 92),
  (yX6_firstFence, cX6_firstFence, 5, (some .int), 6, 4, 92),
  (yX6_costOf, cX6_costOf, 3, (some .int), 6, 2, 43),
  (yX6_measure, cX6_measure, 8, none, 6, 3, 65),
  (yX6_frostParts, cX6_frostParts, 4, (some .int), 6, 2, 43),
  (yX6_frostUnheard, cX6_frostUnheard, 8, (some .int), 6, 2, 47),
  (yX6_snappedFences, cX6_snappedFences, 4, (some .int), 6, 0, 0),
  (yX6_reaches, cX6_reaches, 7, (some .boolean), 6, 1, 21),
  (yX6_power, cX6_power, 4, (some .int), 6, 0, 0),
  (yX6_commonDivisor, cX6_commonDivisor, 6, (some .int), 6, 0, 0),
  (yX7_init, cX7_init, 1, none, 7, 1, 20),
  (yX7_begin, cX7_begin, 2, none, 7, 1, 26),
  (yX7_copyFrom, cX7_copyFrom, 2, none, 7, 1, 26),
  (yX7_sing, cX7_sing, 2, none, 7, 1, 26),
  (yX8_init, cX8_init, 1, none, 8, 1, 20),
  (yX8_takes, cX8_takes, 2, (some .boolean), 8, 0, 0),
  (yX8_tell, cX8_tell, 4, (some .int), 8, 5, 106),
  (yX8_tellsFields, cX8_tellsFields, 2, (some .boolean), 8, 4, 84),
  (yX8_tellsFence, cX8_tellsFence, 3, (some .boolean), 8, 4, 84),
  (yX8_tellsKind, cX8_tellsKind, 3, (some .boolean), 8, 4, 84),
  (yX8_tellsBeast, cX8_tellsBeast, 3, (some .boolean), 8, 4, 84),
  (yX8_tellsWet, cX8_tellsWet, 2, (some .boolean), 8, 4, 84),
  (yX8_number, cX8_number, 3, (some .boolean), 8, 3, 62),
  (yX8_stops, cX8_stops, 1, (some .boolean), 8, 3, 62),
  (yX8_step, cX8_step, 1, none, 8, 2, 42),
  (yX8_stepLetters, cX8_stepLetters, 1, none, 8, 1, 20),
  (yX8_stepNumber, cX8_stepNumber, 2, none, 8, 1, 21),
  (yX8_isLetter, cX8_isLetter, 1, (some .boolean), 8, 0, 0),
  (yX8_isDigit, cX8_isDigit, 1, (some .boolean), 8, 0, 0),
  (yX9_init, cX9_init, 2, none, 9, 4, 81),
  (yX9_type, cX9_type, 2, (some .int), 9, 1, 21),
  (yX9_clear, cX9_clear, 2, (some .int), 9, 0, 0),
  (yX9_downs, cX9_downs, 2, (some .int), 9, 6, 129),
  (yX9_fence, cX9_fence, 3, (some .int), 9, 1, 21),
  (yX9_kind, cX9_kind, 3, (some .int), 9, 1, 21),
  (yX9_beast, cX9_beast, 3, (some .int), 9, 1, 21),
  (yX9_sound, cX9_sound, 3, (some .int), 9, 2, 43),
  (yX9_goes, cX9_goes, 5, (some .int), 9, 3, 68),
  (yX9_cuts, cX9_cuts, 3, (some .int), 9, 3, 68),
  (yX9_tunes, cX9_tunes, 4, (some .int), 9, 3, 68),
  (yX9_lays, cX9_lays, 3, (some .int), 9, 3, 68),
  (yX9_rains, cX9_rains, 3, (some .int), 9, 3, 68),
  (yX9_undo, cX9_undo, 1, (some .int), 9, 3, 68),
  (yX9_now, cX9_now, 2, (some .int), 9, 4, 87),
  (yX9_song, cX9_song, 2, (some .int), 9, 0, 0),
  (yX9_who, cX9_who, 2, (some .int), 9, 3, 67),
  (yX9_hears, cX9_hears, 2, (some .int), 9, 1, 21),
  (yX9_forget, cX9_forget, 2, (some .int), 9, 0, 0),
  (yX9_ways, cX9_ways, 3, (some .int), 9, 4, 92),
  (yX9_ends, cX9_ends, 2, (some .int), 9, 4, 91),
  (yX9_can, cX9_can, 1, (some .int), 9, 5, 113),
  (yX9_ask, cX9_ask, 1, (some .int), 9, 5, 115),
  (yX9_quiet, cX9_quiet, 5, (some .int), 9, 5, 116),
  (yX9_fifths, cX9_fifths, 2, (some .int), 9, 3, 68),
  (yX9_herd, cX9_herd, 2, (some .int), 9, 5, 115),
  (yX9_frost, cX9_frost, 10, (some .int), 9, 3, 74),
  (yX9_mark, cX9_mark, 3, (some .int), 9, 5, 110),
  (yX9_keep, cX9_keep, 2, (some .int), 9, 4, 91),
  (yX9_back, cX9_back, 2, (some .int), 9, 4, 91),
  (yX9_count, cX9_count, 2, (some .int), 9, 0, 0),
  (yX9_trace, cX9_trace, 1, (some .long), 9, 0, 0),
  (yX9_beginAnew, cX9_beginAnew, 2, none, 9, 2, 47),
  (yX9_isField, cX9_isField, 2, (some .boolean), 9, 0, 0),
  (yX9_isFence, cX9_isFence, 2, (some .boolean), 9, 0, 0),
  (yX9_isKind, cX9_isKind, 2, (some .boolean), 9, 0, 0),
  (yX9_isBeast, cX9_isBeast, 2, (some .boolean), 9, 0, 0),
  (yX9_isImage, cX9_isImage, 1, (some .boolean), 9, 0, 0),
  (yX9_isFlag, cX9_isFlag, 1, (some .boolean), 9, 0, 0),
  (yX9_markString, cX9_markString, 2, (some .int), 9, 0, 0),
  (yX9_markBass, cX9_markBass, 2, (some .int), 9, 1, 21),
  (yX9_markTreble, cX9_markTreble, 2, (some .int), 9, 3, 68),
  (yX9_markBull, cX9_markBull, 2, (some .int), 9, 2, 42),
  (yX9_markLark, cX9_markLark, 2, (some .int), 9, 4, 89),
  (yX9_markPedal, cX9_markPedal, 2, (some .int), 9, 1, 21),
  (yX10_init, cX10_init, 1, none, 10, 1, 20),
  (yX10_in, cX10_in, 3, (some .boolean), 10, 0, 0),
  (yX10_has, cX10_has, 2, (some .boolean), 10, 0, 0),
  (yX10_type, cX10_type, 2, (some .int), 10, 1, 22),
  (yX10_clear, cX10_clear, 2, (some .int), 10, 0, 0),
  (yX10_here, cX10_here, 1, (some .int), 10, 0, 0),
  (yX10_step, cX10_step, 2, none, 10, 1, 22),
  (yX10_due, cX10_due, 2, none, 10, 2, 43),
  (yX10_number, cX10_number, 4, (some .int), 10, 3, 64),
  (yX10_item, cX10_item, 4, none, 10, 4, 87),
  (yX10_may, cX10_may, 3, (some .boolean), 10, 0, 0),
  (yX10_read, cX10_read, 3, none, 10, 5, 110),
  (yX10_downs, cX10_downs, 2, (some .int), 10, 6, 132),
  (yX10_isField, cX10_isField, 2, (some .boolean), 10, 1, 22),
  (yX10_isFence, cX10_isFence, 2, (some .boolean), 10, 1, 22),
  (yX10_isKind, cX10_isKind, 2, (some .boolean), 10, 1, 22),
  (yX10_isBeast, cX10_isBeast, 2, (some .boolean), 10, 1, 22),
  (yX10_soundOf, cX10_soundOf, 4, (some .int), 10, 1, 21),
  (yX10_isAt, cX10_isAt, 3, (some .boolean), 10, 0, 0),
  (yX10_across, cX10_across, 3, (some .int), 10, 0, 0),
  (yX10_isString, cX10_isString, 2, (some .boolean), 10, 1, 21),
  (yX10_bitsOf, cX10_bitsOf, 3, (some .int), 10, 0, 0),
  (yX10_allOf, cX10_allOf, 1, (some .int), 10, 0, 0),
  (yX10_fence, cX10_fence, 3, (some .int), 10, 2, 43),
  (yX10_kind, cX10_kind, 3, (some .int), 10, 2, 43),
  (yX10_beast, cX10_beast, 3, (some .int), 10, 2, 43),
  (yX10_sound, cX10_sound, 3, (some .int), 10, 2, 44),
  (yX10_know, cX10_know, 2, none, 10, 0, 0),
  (yX10_sing, cX10_sing, 3, none, 10, 0, 0),
  (yX10_goes, cX10_goes, 4, (some .int), 10, 2, 44),
  (yX10_cuts, cX10_cuts, 3, (some .int), 10, 2, 43),
  (yX10_tunes, cX10_tunes, 4, (some .int), 10, 2, 43),
  (yX10_lays, cX10_lays, 3, (some .int), 10, 1, 22),
  (yX10_rains, cX10_rains, 2, (some .int), 10, 1, 22),
  (yX10_undo, cX10_undo, 2, (some .int), 10, 0, 0),
  (yX10_areAlike, cX10_areAlike, 4, (some .boolean), 10, 2, 42),
  (yX10_alike, cX10_alike, 4, (some .int), 10, 3, 65),
  (yX10_areApart, cX10_areApart, 5, (some .boolean), 10, 3, 65),
  (yX10_areHeard, cX10_areHeard, 4, (some .boolean), 10, 2, 42),
  (yX10_fewest, cX10_fewest, 6, (some .int), 10, 4, 89),
  (yX10_now, cX10_now, 2, (some .int), 10, 5, 114),
  (yX10_song, cX10_song, 2, (some .int), 10, 1, 22),
  (yX10_who, cX10_who, 6, (some .int), 10, 2, 44),
  (yX10_hears, cX10_hears, 2, (some .int), 10, 1, 22),
  (yX10_forget, cX10_forget, 2, (some .int), 10, 0, 0),
  (yX10_ways, cX10_ways, 5, (some .int), 10, 2, 44),
  (yX10_endsOf, cX10_endsOf, 6, (some .int), 10, 2, 44),
  (yX10_ends, cX10_ends, 2, (some .int), 10, 3, 69),
  (yX10_can, cX10_can, 3, (some .int), 10, 3, 69),
  (yX10_comesTo, cX10_comesTo, 4, (some .boolean), 10, 3, 69),
  (yX10_ask, cX10_ask, 8, (some .int), 10, 4, 92),
  (yX10_costOf, cX10_costOf, 3, (some .int), 10, 2, 44),
  (yX10_measure, cX10_measure, 7, none, 10, 3, 66),
  (yX10_quiet, cX10_quiet, 8, (some .int), 10, 4, 92),
  (yX10_fifthsOf, cX10_fifthsOf, 7, (some .int), 10, 2, 42),
  (yX10_fifths, cX10_fifths, 2, (some .int), 10, 3, 68),
  (yX10_milkBy, cX10_milkBy, 5, (some .int), 10, 3, 68),
  (yX10_herd, cX10_herd, 7, (some .int), 10, 4, 92),
  (yX10_isUnheard, cX10_isUnheard, 10, (some .boolean), 10, 2, 44),
  (yX10_frost, cX10_frost, 13, (some .int), 10, 3, 73),
  (yX10_bodiesOf, cX10_bodiesOf, 1, (some .int), 10, 0, 0),
  (yX10_mark, cX10_mark, 7, (some .int), 10, 3, 68),
  (yX10_trace, cX10_trace, 1, (some .long), 10, 0, 0),
  (yX10_keep, cX10_keep, 3, (some .int), 10, 1, 22),
  (yX10_back, cX10_back, 3, (some .int), 10, 1, 22),
  (yX10_count, cX10_count, 2, (some .int), 10, 0, 0),
  (yJ6_bitCount_0f7a4, cJ6_bitCount_0f7a4, 1, (some .int), 11, 0, 0),
  (yL_law, cL_law, 4, (some .boolean), 12, 9, 310)]
def zM (k : Nat) : Option zMe := zMT[k]?
def zMP : List (Nat × Nat × Nat × Nat × Nat) := [(346, 345, 9999, 9999, 75), (616, 614, 9999, 615, 75), (634, 632, 9999, 633, 75), (646, 644, 9999, 645, 75), (620, 619, 9999, 14, 75), (624, 623, 9999, 15, 75), (638, 637, 9999, 16, 75), (642, 641, 9999, 17, 75), (781, 779, 9999, 780, 75), (794, 792, 9999, 793, 75), (798, 797, 9999, 28, 75), (785, 784, 9999, 26, 75), (790, 789, 9999, 27, 75), (252, 251, 9999, 9999, 71), (547, 545, 9999, 546, 71), (543, 541, 9999, 542, 71), (766, 764, 9999, 765, 71), (770, 769, 9999, 25, 71), (658, 656, 9999, 657, 71), (292, 291, 9999, 9999, 73), (668, 666, 9999, 667, 73), (684, 682, 9999, 683, 73), (688, 687, 9999, 19, 73), (698, 696, 9999, 697, 73), (702, 701, 9999, 20, 73), (710, 708, 9999, 709, 73), (719, 717, 9999, 718, 73), (723, 722, 9999, 21, 73), (727, 726, 9999, 22, 73), (370, 369, 9999, 9999, 77), (871, 869, 9999, 870, 77), (884, 882, 9999, 883, 77), (123, 122, 9999, 9999, 69), (390, 388, 9999, 389, 69), (509, 507, 9999, 508, 69), (556, 554, 9999, 555, 69), (569, 567, 9999, 568, 69), (629, 627, 9999, 628, 69), (270, 269, 9999, 9999, 72), (560, 558, 9999, 559, 72), (607, 605, 9999, 606, 72), (876, 874, 9999, 875, 72), (321, 320, 9999, 9999, 74), (737, 735, 9999, 736, 74), (752, 750, 9999, 751, 74), (756, 754, 9999, 755, 74), (746, 745, 9999, 24, 74), (741, 740, 9999, 23, 74), (806, 804, 9999, 805, 74), (813, 811, 9999, 812, 74), (818, 817, 9999, 29, 74), (822, 821, 9999, 30, 74), (809, 9999, 808, 9999, 74), (826, 9999, 825, 9999, 74), (210, 209, 9999, 9999, 70), (398, 396, 9999, 397, 70), (564, 562, 9999, 563, 70), (573, 571, 9999, 572, 70), (93, 92, 9999, 9999, 68), (443, 441, 9999, 442, 68), (455, 453, 9999, 454, 68), (481, 480, 9999, 4, 68), (489, 488, 9999, 6, 68), (493, 492, 9999, 7, 68), (497, 496, 9999, 8, 68), (501, 500, 9999, 9, 68), (485, 484, 9999, 5, 68), (505, 504, 9999, 10, 68), (460, 459, 9999, 1, 68), (467, 466, 9999, 2, 68), (474, 473, 9999, 3, 68), (463, 9999, 462, 9999, 68), (470, 9999, 469, 9999, 68), (85, 84, 9999, 9999, 67), (439, 437, 9999, 438, 67), (447, 445, 9999, 446, 67), (451, 449, 9999, 450, 67), (514, 512, 9999, 513, 67), (522, 520, 9999, 521, 67), (531, 529, 9999, 530, 67), (539, 537, 9999, 538, 67), (552, 550, 9999, 551, 67), (578, 576, 9999, 577, 67), (591, 589, 9999, 590, 67), (595, 593, 9999, 594, 67), (599, 597, 9999, 598, 67), (603, 601, 9999, 602, 67), (612, 610, 9999, 611, 67), (650, 648, 9999, 649, 67), (654, 652, 9999, 653, 67), (664, 662, 9999, 663, 67), (672, 670, 9999, 671, 67), (676, 674, 9999, 675, 67), (694, 692, 9999, 693, 67), (706, 704, 9999, 705, 67), (715, 713, 9999, 714, 67), (733, 731, 9999, 732, 67), (762, 760, 9999, 761, 67), (777, 775, 9999, 776, 67), (802, 800, 9999, 801, 67), (831, 829, 9999, 830, 67), (864, 862, 9999, 863, 67), (880, 878, 9999, 879, 67), (888, 886, 9999, 887, 67), (892, 890, 9999, 891, 67), (394, 393, 9999, 0, 67), (680, 679, 9999, 18, 67), (518, 517, 9999, 11, 67), (526, 525, 9999, 12, 67), (535, 534, 9999, 13, 67), (867, 9999, 866, 9999, 67), (581, 9999, 580, 9999, 67), (835, 834, 9999, 31, 67), (839, 838, 9999, 32, 67), (844, 843, 9999, 33, 67), (849, 848, 9999, 34, 67), (854, 853, 9999, 35, 67), (859, 858, 9999, 36, 67), (897, 896, 9999, 9999, 79), (1004, 9999, 1003, 9999, 79), (1051, 9999, 1050, 9999, 79), (1001, 999, 9999, 1000, 79), (1008, 1006, 9999, 1007, 79), (1024, 1023, 9999, 39, 79), (1020, 1019, 9999, 38, 79), (1032, 1031, 9999, 41, 79), (1040, 1039, 9999, 43, 79), (1036, 1035, 9999, 42, 79), (1028, 1027, 9999, 40, 79), (1016, 1015, 9999, 37, 79), (1012, 1010, 9999, 1011, 79), (1174, 1173, 9999, 58, 79), (1048, 1047, 9999, 44, 79), (1059, 1058, 9999, 45, 79), (1068, 1067, 9999, 46, 79), (1076, 1075, 9999, 47, 79), (1084, 1083, 9999, 48, 79), (1092, 1091, 9999, 50, 79), (1138, 1137, 9999, 54, 79), (1103, 9999, 1102, 9999, 79), (1114, 9999, 1113, 9999, 79), (1044, 1042, 9999, 1043, 79), (1055, 1053, 9999, 1054, 79), (1064, 1062, 9999, 1063, 79), (1072, 1070, 9999, 1071, 79), (1088, 1087, 9999, 49, 79), (1096, 1095, 9999, 51, 79), (1080, 1078, 9999, 1079, 79), (1100, 1098, 9999, 1099, 79), (1107, 1105, 9999, 1106, 79), (1111, 1109, 9999, 1110, 79), (1118, 1116, 9999, 1117, 79), (1122, 1120, 9999, 1121, 79), (1134, 1133, 9999, 53, 79), (1130, 1129, 9999, 52, 79), (1146, 1145, 9999, 56, 79), (1150, 1149, 9999, 57, 79), (1142, 1141, 9999, 55, 79), (1126, 1124, 9999, 1125, 79), (1154, 1152, 9999, 1153, 79), (1158, 1156, 9999, 1157, 79), (1162, 1160, 9999, 1161, 79), (1166, 1164, 9999, 1165, 79), (1170, 1168, 9999, 1169, 79), (1183, 1182, 9999, 59, 79), (1179, 1177, 9999, 1178, 79), (1187, 1185, 9999, 1186, 79), (1195, 1194, 9999, 60, 79), (1191, 1189, 9999, 1190, 79), (1208, 1207, 9999, 62, 79), (1203, 1202, 9999, 61, 79), (1199, 1197, 9999, 1198, 79), (1216, 1215, 9999, 63, 79), (1212, 1210, 9999, 1211, 79), (1224, 1223, 9999, 64, 79), (1220, 1218, 9999, 1219, 79), (1232, 1231, 9999, 65, 79), (1228, 1226, 9999, 1227, 79), (1239, 9999, 1238, 9999, 79), (1236, 1234, 9999, 1235, 79), (1244, 1242, 9999, 1243, 79), (1248, 1246, 9999, 1247, 79), (1252, 1250, 9999, 1251, 79), (1256, 1254, 9999, 1255, 79), (584, 9999, 583, 9999, 80), (9999, 9999, 9999, 9999, 66)]
def zFL : List (Nat × Nat × Nat × Nat × Nat) := [(0, 15, 0, 2, 353), (0, 21, 0, 3, 354), (0, 24, 0, 4, 355), (0, 27, 0, 0, 351), (0, 31, 1, 0, 256), (0, 37, 0, 1, 352), (0, 41, 4, 1, 132), (0, 56, 4, 0, 127), (0, 63, 4, 2, 140), (0, 66, 4, 3, 146), (0, 73, 1, 1, 259), (0, 77, 7, 1, 218), (0, 101, 4, 8, 168), (0, 104, 4, 7, 164), (0, 107, 4, 9, 174), (1, 9, 1, 0, 254), (1, 15, 1, 1, 258), (1, 19, 7, 1, 216), (1, 25, 7, 4, 224), (1, 33, 7, 5, 228), (1, 36, 4, 6, 158), (1, 41, 7, 6, 231), (1, 50, 4, 1, 134), (1, 64, 4, 8, 167), (1, 67, 7, 0, 213), (1, 70, 4, 9, 171), (2, 9, 2, 2, 296), (2, 15, 2, 3, 297), (2, 18, 2, 4, 298), (2, 21, 2, 5, 299), (2, 24, 2, 0, 294), (2, 28, 1, 0, 257), (2, 34, 2, 1, 295), (2, 35, 2, 6, 300), (2, 39, 4, 0, 126), (2, 49, 4, 1, 135), (2, 56, 4, 2, 139), (2, 59, 4, 3, 145), (2, 66, 4, 5, 155), (3, 10, 3, 0, 376), (3, 19, 3, 1, 377), (3, 30, 3, 2, 378), (4, 9, 4, 2, 138), (4, 15, 4, 3, 144), (4, 18, 4, 4, 150), (4, 21, 4, 6, 157), (4, 24, 4, 7, 161), (4, 27, 4, 9, 170), (4, 30, 4, 10, 175), (4, 33, 4, 0, 125), (4, 37, 4, 1, 131), (4, 40, 4, 5, 153), (4, 43, 4, 8, 165), (4, 46, 4, 11, 178), (5, 11, 5, 0, 275), (5, 18, 5, 1, 276), (5, 26, 5, 2, 277), (6, 9, 6, 2, 325), (6, 15, 6, 3, 326), (6, 18, 6, 0, 323), (6, 22, 1, 0, 255), (6, 28, 6, 1, 324), (6, 34, 4, 1, 136), (6, 54, 4, 0, 129), (6, 57, 4, 2, 143), (6, 60, 4, 3, 149), (6, 68, 6, 5, 328), (6, 71, 6, 4, 327), (6, 74, 1, 1, 260), (6, 78, 7, 1, 219), (7, 9, 7, 0, 212), (7, 15, 7, 1, 215), (7, 18, 7, 2, 220), (7, 21, 4, 10, 176), (7, 30, 4, 4, 151), (7, 31, 7, 3, 222), (7, 35, 7, 4, 225), (7, 38, 7, 5, 227), (7, 41, 4, 11, 179), (7, 44, 7, 6, 230), (8, 9, 8, 0, 95), (8, 15, 8, 1, 96), (8, 24, 8, 2, 98), (8, 27, 8, 6, 102), (8, 34, 8, 3, 99), (8, 37, 8, 5, 101), (8, 44, 4, 1, 133), (8, 50, 4, 5, 154), (8, 56, 4, 8, 166), (8, 69, 8, 4, 100), (8, 76, 4, 0, 128), (8, 79, 4, 2, 141), (8, 82, 4, 3, 148), (8, 85, 4, 4, 152), (8, 88, 4, 6, 159), (8, 91, 4, 7, 162), (8, 94, 4, 9, 172), (8, 97, 4, 10, 177), (8, 100, 4, 11, 180), (9, 10, 9, 0, 402), (9, 19, 9, 1, 403), (9, 23, 9, 2, 404), (9, 29, 9, 3, 405), (9, 38, 9, 4, 406), (9, 45, 9, 5, 407), (9, 51, 9, 6, 408), (9, 60, 9, 7, 409), (9, 67, 9, 8, 410), (9, 74, 9, 9, 411), (9, 89, 8, 1, 97), (9, 104, 4, 2, 142), (9, 108, 4, 3, 147), (9, 111, 7, 1, 217), (9, 114, 7, 4, 226), (9, 117, 7, 5, 229), (9, 124, 4, 6, 160), (9, 127, 4, 7, 163), (9, 133, 4, 9, 173), (9, 136, 7, 0, 214), (9, 167, 4, 1, 137), (9, 170, 7, 6, 232), (9, 173, 5, 2, 278), (9, 179, 7, 3, 223), (9, 192, 7, 2, 221), (9, 199, 2, 6, 301), (9, 230, 4, 8, 169), (9, 233, 4, 0, 130), (9, 281, 3, 2, 379), (9, 288, 4, 5, 156), (9, 291, 9, 10, 412), (10, 7, 10, 0, 899), (10, 13, 10, 2, 901), (10, 17, 10, 3, 902), (10, 20, 10, 4, 903), (10, 23, 10, 5, 904), (10, 26, 10, 6, 905), (10, 29, 10, 7, 906), (10, 32, 10, 8, 907), (10, 35, 10, 9, 908), (10, 38, 10, 10, 909), (10, 41, 10, 11, 910), (10, 44, 10, 12, 911), (10, 47, 10, 13, 912), (10, 50, 10, 20, 919), (10, 53, 10, 21, 920), (10, 56, 10, 22, 921), (10, 59, 10, 23, 922), (10, 62, 10, 24, 923), (10, 66, 10, 25, 924), (10, 69, 10, 27, 926), (10, 72, 10, 28, 927), (10, 75, 10, 29, 928), (10, 78, 10, 30, 929), (10, 85, 10, 1, 900), (10, 89, 10, 14, 913), (10, 96, 10, 15, 914), (10, 99, 10, 17, 916), (10, 102, 10, 16, 915), (10, 105, 10, 18, 917), (10, 120, 10, 19, 918), (10, 134, 10, 26, 925), (10, 224, 10, 31, 930)]
def zML : List (Nat × Nat × Nat × Nat × Nat × Nat) := [(0, 3, 0, 4, 0, 347), (0, 9, 0, 5, 2, 348), (0, 38, 4, 0, 0, 617), (0, 47, 184, 1, 1, 630), (0, 53, 6, 0, 1, 635), (0, 59, 14, 0, 1, 625), (0, 69, 5, 0, 2, 621), (0, 82, 37, 0, 1, 626), (0, 85, 7, 0, 2, 639), (0, 88, 11, 0, 0, 782), (0, 91, 10, 0, 2, 795), (0, 94, 12, 0, 3, 787), (0, 98, 16, 0, 1, 786), (1, 3, 0, 4, 0, 253), (1, 29, 14, 0, 1, 544), (1, 44, 0, 5, 2, 548), (1, 53, 17, 0, 2, 767), (1, 57, 0, 7, 1, 771), (1, 61, 35, 0, 2, 659), (1, 73, 15, 0, 2, 660), (2, 3, 0, 4, 0, 293), (2, 44, 22, 0, 2, 685), (2, 52, 15, 0, 2, 689), (2, 62, 24, 0, 3, 699), (2, 69, 23, 0, 1, 711), (2, 73, 27, 0, 1, 720), (2, 76, 28, 0, 2, 724), (2, 80, 0, 5, 2, 729), (2, 85, 37, 0, 1, 728), (3, 1, 0, 4, 0, 371), (3, 9, 54, 3, 0, 373), (3, 18, 38, 2, 0, 375), (3, 23, 56, 0, 1, 872), (3, 27, 41, 0, 1, 873), (4, 3, 0, 4, 0, 124), (4, 49, 0, 8, 5, 510), (5, 3, 0, 4, 0, 271), (5, 17, 54, 3, 0, 274), (5, 22, 56, 0, 1, 561), (5, 29, 0, 6, 2, 565), (5, 35, 0, 5, 2, 608), (6, 3, 0, 4, 0, 322), (6, 29, 47, 0, 2, 738), (6, 40, 35, 0, 2, 757), (6, 44, 36, 0, 2, 758), (6, 48, 46, 0, 2, 743), (6, 51, 15, 0, 2, 747), (6, 63, 0, 6, 2, 748), (6, 83, 52, 1, 2, 807), (6, 86, 184, 1, 1, 814), (6, 92, 50, 0, 1, 815), (6, 95, 51, 0, 3, 819), (6, 99, 37, 0, 1, 823), (7, 3, 0, 4, 0, 211), (7, 24, 0, 8, 5, 399), (7, 45, 0, 6, 2, 574), (8, 3, 0, 4, 0, 94), (8, 19, 33, 0, 0, 456), (8, 31, 68, 0, 0, 457), (8, 40, 61, 0, 1, 478), (8, 47, 62, 0, 1, 486), (8, 53, 63, 0, 1, 490), (8, 59, 64, 0, 1, 494), (8, 62, 65, 0, 1, 498), (8, 65, 67, 0, 0, 502), (8, 72, 66, 0, 2, 482), (8, 103, 71, 1, 1, 461), (8, 107, 69, 0, 0, 464), (8, 110, 72, 1, 1, 468), (8, 113, 70, 0, 0, 471), (8, 116, 0, 6, 2, 475), (9, 1, 0, 4, 0, 86), (9, 9, 58, 3, 0, 91), (9, 18, 32, 3, 0, 121), (9, 28, 54, 3, 0, 208), (9, 35, 13, 2, 2, 250), (9, 44, 38, 2, 0, 268), (9, 57, 19, 2, 1, 290), (9, 66, 42, 2, 1, 319), (9, 73, 0, 2, 1, 344), (9, 78, 29, 3, 0, 368), (9, 79, 33, 0, 0, 387), (9, 82, 105, 0, 0, 391), (9, 85, 59, 0, 1, 440), (9, 93, 60, 0, 1, 452), (9, 97, 34, 0, 1, 506), (9, 101, 107, 0, 1, 515), (9, 120, 108, 0, 1, 523), (9, 130, 109, 0, 1, 532), (9, 139, 15, 0, 2, 540), (9, 143, 35, 0, 2, 553), (9, 147, 39, 0, 1, 557), (9, 151, 36, 0, 2, 566), (9, 154, 57, 0, 1, 570), (9, 158, 111, 1, 1, 579), (9, 161, 184, 1, 1, 582), (9, 176, 40, 0, 1, 604), (9, 182, 1, 0, 0, 613), (9, 186, 2, 0, 0, 631), (9, 189, 3, 0, 0, 643), (9, 195, 18, 0, 1, 655), (9, 198, 20, 0, 1, 665), (9, 202, 106, 0, 1, 677), (9, 205, 21, 0, 2, 681), (9, 208, 23, 0, 1, 695), (9, 211, 25, 0, 0, 707), (9, 214, 26, 0, 0, 716), (9, 217, 43, 0, 3, 734), (9, 221, 44, 0, 3, 749), (9, 224, 45, 0, 3, 753), (9, 227, 16, 0, 1, 763), (9, 236, 8, 0, 0, 778), (9, 239, 9, 0, 1, 791), (9, 242, 48, 0, 2, 803), (9, 245, 49, 0, 3, 810), (9, 248, 53, 1, 2, 824), (9, 251, 0, 5, 2, 827), (9, 256, 112, 0, 1, 832), (9, 259, 113, 0, 1, 836), (9, 262, 114, 0, 1, 841), (9, 265, 115, 0, 1, 846), (9, 268, 116, 0, 1, 851), (9, 271, 117, 0, 1, 856), (9, 274, 110, 1, 1, 865), (9, 277, 30, 0, 2, 868), (9, 285, 31, 0, 2, 881), (9, 295, 55, 0, 1, 395), (10, 1, 0, 4, 0, 898), (10, 81, 119, 1, 3, 1002), (10, 92, 123, 0, 0, 1021), (10, 109, 124, 0, 0, 1017), (10, 112, 125, 0, 1, 1029), (10, 116, 126, 0, 2, 1037), (10, 123, 128, 0, 2, 1025), (10, 127, 127, 0, 1, 1033), (10, 131, 129, 0, 0, 1013), (10, 137, 120, 1, 2, 1049), (10, 141, 132, 0, 1, 1045), (10, 145, 133, 0, 1, 1056), (10, 149, 134, 0, 1, 1065), (10, 152, 135, 0, 2, 1073), (10, 155, 136, 0, 2, 1081), (10, 158, 145, 0, 0, 1085), (10, 161, 137, 0, 2, 1089), (10, 164, 146, 0, 1, 1093), (10, 167, 139, 1, 1, 1101), (10, 171, 140, 1, 1, 1112), (10, 174, 138, 0, 1, 1135), (10, 177, 153, 0, 2, 1131), (10, 180, 155, 0, 1, 1143), (10, 183, 156, 0, 1, 1147), (10, 186, 154, 0, 0, 1127), (10, 189, 157, 0, 1, 1139), (10, 192, 131, 0, 1, 1171), (10, 196, 164, 0, 1, 1180), (10, 199, 167, 0, 2, 1192), (10, 203, 169, 0, 2, 1205), (10, 206, 170, 0, 2, 1200), (10, 210, 172, 0, 1, 1213), (10, 213, 174, 0, 3, 1221), (10, 217, 176, 0, 4, 1229), (10, 221, 178, 1, 1, 1237), (12, 9, 73, 2, 0, 83), (12, 12, 118, 2, 0, 895), (12, 13, 74, 0, 1, 436), (12, 17, 121, 0, 1, 998), (12, 18, 75, 0, 0, 444), (12, 22, 122, 0, 0, 1005), (12, 23, 76, 0, 0, 448), (12, 26, 130, 0, 0, 1009), (12, 27, 77, 0, 2, 511), (12, 31, 141, 0, 2, 1041), (12, 32, 78, 0, 2, 519), (12, 35, 142, 0, 2, 1052), (12, 36, 79, 0, 2, 528), (12, 39, 143, 0, 2, 1061), (12, 40, 80, 0, 2, 536), (12, 43, 144, 0, 2, 1069), (12, 44, 81, 0, 2, 549), (12, 47, 147, 0, 2, 1077), (12, 48, 82, 0, 2, 575), (12, 51, 148, 0, 2, 1097), (12, 52, 83, 0, 2, 588), (12, 55, 149, 0, 2, 1104), (12, 56, 84, 0, 1, 592), (12, 59, 150, 0, 1, 1108), (12, 60, 85, 0, 1, 596), (12, 63, 151, 0, 1, 1115), (12, 64, 86, 0, 0, 600), (12, 67, 152, 0, 0, 1119), (12, 68, 87, 0, 1, 609), (12, 71, 158, 0, 1, 1123), (12, 72, 88, 0, 1, 647), (12, 75, 159, 0, 1, 1151), (12, 76, 89, 0, 1, 651), (12, 79, 160, 0, 1, 1155), (12, 80, 90, 0, 1, 661), (12, 83, 161, 0, 1, 1159), (12, 84, 91, 0, 0, 669), (12, 87, 162, 0, 0, 1163), (12, 88, 92, 0, 2, 673), (12, 91, 163, 0, 2, 1167), (12, 92, 93, 0, 1, 691), (12, 95, 165, 0, 1, 1176), (12, 96, 94, 0, 0, 703), (12, 99, 166, 0, 0, 1184), (12, 100, 95, 0, 0, 712), (12, 103, 168, 0, 0, 1188), (12, 104, 96, 0, 4, 730), (12, 108, 171, 0, 4, 1196), (12, 109, 97, 0, 1, 759), (12, 112, 173, 0, 1, 1209), (12, 113, 98, 0, 1, 774), (12, 116, 175, 0, 1, 1217), (12, 117, 99, 0, 6, 799), (12, 121, 177, 0, 6, 1225), (12, 122, 100, 0, 2, 828), (12, 125, 179, 0, 2, 1233), (12, 126, 101, 0, 1, 861), (12, 129, 181, 0, 1, 1245), (12, 130, 102, 0, 1, 877), (12, 133, 182, 0, 1, 1249), (12, 134, 103, 0, 1, 885), (12, 137, 183, 0, 1, 1253), (12, 138, 104, 0, 0, 889), (12, 142, 180, 0, 0, 1241)]
def zCL : List (Nat × Nat × Nat × Nat) := [(3, 7, 7, 372), (3, 16, 5, 374), (5, 9, 7, 272), (9, 7, 8, 89), (9, 16, 4, 119), (9, 26, 7, 206), (9, 33, 1, 248), (9, 42, 5, 266), (9, 49, 3, 286), (9, 55, 2, 288), (9, 64, 6, 317), (9, 71, 0, 342), (12, 7, 9, 81), (12, 10, 10, 893)]
def zIL : List (Nat × Nat × Int32 × Nat) := [(2, 48, 1000003, 690), (6, 33, 1000000, 742), (9, 123, -1000000, 527), (10, 148, -1000000, 1060), (10, 195, 1000003, 1175), (10, 202, 1000000, 1204), (11, 265, 1431655765, 585), (11, 266, 858993459, 586), (11, 267, 252645135, 587)]
def zLL : List (Nat × Nat × Int64 × Nat) := [(9, 297, 10, 840), (9, 299, 100, 845), (9, 301, 1000, 850), (9, 303, 10000, 855), (9, 305, 100000, 860), (10, 228, 10, 1240)]
def zF (o i : Nat) : Option (Nat × Nat) := (zFL.find? (fun e => e.1 == o && e.2.1 == i)).map (fun e => (e.2.2.1, e.2.2.2.1))
/-- of a method reference: the method, the kind of call, how many arguments -/
def zMr (o i : Nat) : Option (Nat × Nat × Nat) := (zML.find? (fun e => e.1 == o && e.2.1 == i)).map (fun e => (e.2.2.1, e.2.2.2.1, e.2.2.2.2.1))
def zC (o i : Nat) : Option Nat := (zCL.find? (fun e => e.1 == o && e.2.1 == i)).map (fun e => e.2.2.1)
def zI (o i : Nat) : Option Int32 := (zIL.find? (fun e => e.1 == o && e.2.1 == i)).map (fun e => e.2.2.1)
def zL (o i : Nat) : Option Int64 := (zLL.find? (fun e => e.1 == o && e.2.1 == i)).map (fun e => e.2.2.1)
/-- the plan of the cells: kind and length -/
def zKL : List (Nat × Nat) := [(9, 11), (8, 7), (100, 150), (4, 12), (100, 8), (100, 8), (100, 8), (100, 4), (100, 4), (100, 6), (100, 6), (4, 12), (100, 8), (100, 8), (100, 8), (100, 4), (100, 4), (100, 6), (100, 6), (7, 7), (100, 6), (100, 8), (100, 12), (1, 2), (5, 3), (103, 10), (7, 7), (100, 6), (100, 8), (100, 12), (7, 7), (100, 6), (100, 8), (100, 12), (7, 7), (100, 6), (100, 8), (100, 12), (7, 7), (100, 6), (100, 8), (100, 12), (7, 7), (100, 6), (100, 8), (100, 12), (7, 7), (100, 6), (100, 8), (100, 12), (7, 7), (100, 6), (100, 8), (100, 12), (7, 7), (100, 6), (100, 8), (100, 12), (7, 7), (100, 6), (100, 8), (100, 12), (7, 7), (100, 6), (100, 8), (100, 12), (104, 2), (2, 7), (100, 6), (100, 4), (100, 8), (100, 8), (6, 6), (100, 8), (100, 8), (0, 5), (100, 8), (100, 8), (100, 256), (3, 3), (7, 7), (100, 6), (100, 8), (100, 12), (5, 3), (103, 10), (7, 7), (100, 6), (100, 8), (100, 12), (7, 7), (100, 6), (100, 8), (100, 12), (7, 7), (100, 6), (100, 8), (100, 12), (7, 7), (100, 6), (100, 8), (100, 12), (7, 7), (100, 6), (100, 8), (100, 12), (7, 7), (100, 6), (100, 8), (100, 12), (7, 7), (100, 6), (100, 8), (100, 12), (7, 7), (100, 6), (100, 8), (100, 12), (7, 7), (100, 6), (100, 8), (100, 12), (7, 7), (100, 6), (100, 8), (100, 12), (3, 3), (7, 7), (100, 6), (100, 8), (100, 12), (5, 3), (103, 10), (7, 7), (100, 6), (100, 8), (100, 12), (7, 7), (100, 6), (100, 8), (100, 12), (7, 7), (100, 6), (100, 8), (100, 12), (7, 7), (100, 6), (100, 8), (100, 12), (7, 7), (100, 6), (100, 8), (100, 12), (7, 7), (100, 6), (100, 8), (100, 12), (7, 7), (100, 6), (100, 8), (100, 12), (7, 7), (100, 6), (100, 8), (100, 12), (7, 7), (100, 6), (100, 8), (100, 12), (7, 7), (100, 6), (100, 8), (100, 12), (10, 32), (101, 150), (100, 2), (100, 2), (100, 16), (100, 16), (100, 16), (100, 2), (100, 8), (100, 8), (100, 2), (100, 12), (100, 12), (100, 2), (100, 30), (100, 3), (100, 900), (100, 60), (102, 2), (100, 6), (100, 8), (100, 8), (100, 8), (100, 1792)]
def zK (a : Nat) : Nat × Nat := zKL.getD a (999, 0)
abbrev zNN : Nat := 197
end
section
/-! THE INTERPRETER: cells by their number (cell a lies at the address sigma + a), ints, references and longs in three tables; the script is the value '.retAddr _' -/
abbrev zHp : Type := Nat × (Nat → Nat → Int32) × (Nat → Nat → Option Nat) × (Nat → Nat → Int64)
abbrev zSt : Type := Nat × Nat × List (Option Value) × List Value × zHp
abbrev zRs : Type := Value × zHp
abbrev zAc : Type := zRs ⊕ (zSt ⊕ (zSt × (zRs → zSt)))
abbrev zScr : Type := Nat × (Nat → Int32)
def zU {α : Type} (f : Nat → Nat → α) (a j : Nat) (v : α) : Nat → Nat → α := fun q t => if q = a ∧ t = j then v else f q t
def zCr {α : Type} (f : Nat → Nat → α) (a : Nat) (d : α) : Nat → Nat → α := fun q t => if q = a then d else f q t
/-- a row of ints copied into another one -/
def zCp (f : Nat → Nat → Int32) (a0 a sp dp n : Nat) : Nat → Nat → Int32 := fun q t => if q = a then va_cpy (f a0) (f a) sp dp n t else f q t
def zTg (pc : Nat) (off : Int) : Option Nat := match (pc : Int) + off with
  | .ofNat t => some t
  | _ => none
def zgo (k pc : Nat) (ls : List (Option Value)) (st : List Value) (h : zHp) : Option zAc := some (.inr (.inl (k, pc, ls, st, h)))
def zjp (k : Nat) (t : Option Nat) (ls : List (Option Value)) (st : List Value) (h : zHp) : Option zAc := match t with
  | some t => zgo k t ls st h
  | none => none
def zcat (st : List Value) : Nat := (st.map fun v => v.category).sum
def zok (n a c : Nat) : Bool := decide (a < n) && (zK a).1 == c
/-- what a field's type asks: 0 an int, 3 a boolean, 1 a long, 2 a reference -/
def zcl : FieldType → Nat
  | .int => 0
  | .boolean => 3
  | .long => 1
  | .object _ => 2
  | .array _ => 2
  | _ => 9
/-- where the one method with a long keeps it -/
def zLA (k : Nat) : Nat := match (zMT[k]?).map (fun M => M.1.desc == "(II)I" && M.1.name == "mark" && M.2.2.2.2.1 == 10) with
  | some true => 4
  | _ => 99
def zset (k : Nat) (ls : List (Option Value)) (j : Nat) (v : Value) : Option (List (Option Value)) := if j = zLA k ∨ j = zLA k + 1 ∨ ls.length ≤ j then none else some (ls.set j (some v))
def zent (as : List Value) (n : Nat) : List (Option Value) := as.map some ++ List.replicate (n - as.length) none
def zcat1 (as : List Value) : Bool := as.all fun v => v.category == 1
def zcall (k : Nat) (M : zMe) (pc : Nat) (ls : List (Option Value)) (as rest : List Value) (h : zHp) (k' : Nat) : Option zAc := match zM k' with
  | none => none
  | some N => if N.2.2.2.2.2.1 + 1 ≤ M.2.2.2.2.2.1 ∧ 8 + (N.2.2.1 + 11) + N.2.2.2.2.2.2 ≤ M.2.2.2.2.2.2 ∧ zcat rest ≤ 8 ∧ as.length ≤ N.2.2.1 ∧ zcat1 as = true then
      some (.inr (.inr ((k', 0, zent as N.2.2.1, [], h), fun x => (k, pc + 3, ls, if N.2.2.2.1 = none then rest else x.1 :: rest, x.2)))) else none
def zsw (pc : Nat) (d lo hi : Int) (offs : Array Int) (x : Int32) : Option Nat := if x.toInt < lo ∨ hi < x.toInt then zTg pc d else match offs[(x.toInt - lo).toNat]? with
  | some o => zTg pc o
  | none => none
def zlen : Instr → Nat → Nat
  | .iload _, _ | .istore _, _ | .aload _, _ | .astore _, _ | .lload _, _ | .lstore _, _ | .bipush _, _ | .newarray _, _ | .ldc _, _ => 2
  | .sipush _, _ | .getfield _, _ | .putfield _, _ | .goto _, _ | .ifCond _ _, _ | .if_icmp _ _, _ | .iinc _ _, _ | .invokevirtual _, _ | .invokestatic _, _ | .invokespecial _, _ | .new _, _ | .anewarray _, _ | .ldc_w _, _ | .ldc2_w _, _ => 3
  | .tableswitch _ _ _ _, n => n
  | .lookupswitch _ _, n => n
  | _, _ => 1
def zcmp (c : ClassFile.Cond) (x y : Int32) : Bool := match c with
  | .eq => decide (x = y)
  | .ne => !decide (x = y)
  | .lt => decide (x < y)
  | .ge => decide (y ≤ x)
  | .gt => decide (y < x)
  | .le => decide (x ≤ y)
def zins (sc : zScr) (k : Nat) (M : zMe) (pc : Nat) (ls : List (Option Value)) (st : List Value) (h : zHp) : Instr → Option zAc
  | .aload_n j => match ls[j.val]? with
    | some (some (.ref a)) => zgo k (pc + 1) ls (.ref a :: st) h
    | some (some (.retAddr a)) => zgo k (pc + 1) ls (.retAddr a :: st) h
    | _ => none
  | .aload j => match ls[j]? with
    | some (some (.ref a)) => zgo k (pc + 2) ls (.ref a :: st) h
    | _ => none
  | .iload_n j => match ls[j.val]? with
    | some (some (.int a)) => zgo k (pc + 1) ls (.int a :: st) h
    | _ => none
  | .iload j => match ls[j]? with
    | some (some (.int a)) => zgo k (pc + 2) ls (.int a :: st) h
    | _ => none
  | .lload_n j => match ls[j.val]? with
    | some (some (.long a)) => zgo k (pc + 1) ls (.long a :: st) h
    | _ => none
  | .lload j => match ls[j]? with
    | some (some (.long a)) => zgo k (pc + 2) ls (.long a :: st) h
    | _ => none
  | .istore_n j => match st with
    | .int x :: st => match zset k ls j.val (.int x) with
      | some ls' => zgo k (pc + 1) ls' st h
      | none => none
    | _ => none
  | .istore j => match st with
    | .int x :: st => match zset k ls j (.int x) with
      | some ls' => zgo k (pc + 2) ls' st h
      | none => none
    | _ => none
  | .astore_n j => match st with
    | .ref x :: st => match zset k ls j.val (.ref x) with
      | some ls' => zgo k (pc + 1) ls' st h
      | none => none
    | _ => none
  | .astore j => match st with
    | .ref x :: st => match zset k ls j (.ref x) with
      | some ls' => zgo k (pc + 2) ls' st h
      | none => none
    | _ => none
  | .lstore_n j => match st with
    | .long x :: st => if j.val = zLA k ∧ j.val + 1 < M.2.2.1 then zgo k (pc + 1) ((ls.set j.val (some (.long x))).set (j.val + 1) none) st h else none
    | _ => none
  | .lstore j => match st with
    | .long x :: st => if j = zLA k ∧ j + 1 < M.2.2.1 then zgo k (pc + 2) ((ls.set j (some (.long x))).set (j + 1) none) st h else none
    | _ => none
  | .iinc j c => match ls[j]? with
    | some (some (.int x)) => match zset k ls j (.int (x + Int32.ofInt c)) with
      | some ls' => zgo k (pc + 3) ls' st h
      | none => none
    | _ => none
  | .iconst n => zgo k (pc + 1) ls (.int (Int32.ofInt n) :: st) h
  | .bipush n => zgo k (pc + 2) ls (.int (Int8.ofInt n).toInt32 :: st) h
  | .sipush n => zgo k (pc + 3) ls (.int (Int16.ofInt n).toInt32 :: st) h
  | .lconst n => zgo k (pc + 1) ls (.long (Int64.ofNat n.val) :: st) h
  | .ldc i => match zI M.2.2.2.2.1 i with
    | some v => zgo k (pc + 2) ls (.int v :: st) h
    | none => none
  | .ldc_w i => match zI M.2.2.2.2.1 i with
    | some v => zgo k (pc + 3) ls (.int v :: st) h
    | none => none
  | .ldc2_w i => match zL M.2.2.2.2.1 i with
    | some v => zgo k (pc + 3) ls (.long v :: st) h
    | none => none
  | .iadd => match st with
    | .int y :: .int x :: st => zgo k (pc + 1) ls (.int (x + y) :: st) h
    | _ => none
  | .isub => match st with
    | .int y :: .int x :: st => zgo k (pc + 1) ls (.int (x - y) :: st) h
    | _ => none
  | .imul => match st with
    | .int y :: .int x :: st => zgo k (pc + 1) ls (.int (x * y) :: st) h
    | _ => none
  | .idiv => match st with
    | .int y :: .int x :: st => if y = 0 then none else zgo k (pc + 1) ls (.int (x / y) :: st) h
    | _ => none
  | .irem => match st with
    | .int y :: .int x :: st => if y = 0 then none else zgo k (pc + 1) ls (.int (x - x / y * y) :: st) h
    | _ => none
  | .ishl => match st with
    | .int y :: .int x :: st => zgo k (pc + 1) ls (.int (x <<< (y &&& 31)) :: st) h
    | _ => none
  | .ishr => match st with
    | .int y :: .int x :: st => zgo k (pc + 1) ls (.int (x >>> (y &&& 31)) :: st) h
    | _ => none
  | .iushr => match st with
    | .int y :: .int x :: st => zgo k (pc + 1) ls (.int (x.toUInt32 >>> (y.toUInt32 &&& Int32.toUInt32 31)).toInt32 :: st) h
    | _ => none
  | .iand => match st with
    | .int y :: .int x :: st => zgo k (pc + 1) ls (.int (x &&& y) :: st) h
    | _ => none
  | .ior => match st with
    | .int y :: .int x :: st => zgo k (pc + 1) ls (.int (x ||| y) :: st) h
    | _ => none
  | .ixor => match st with
    | .int y :: .int x :: st => zgo k (pc + 1) ls (.int (x ^^^ y) :: st) h
    | _ => none
  | .ladd => match st with
    | .long y :: .long x :: st => zgo k (pc + 1) ls (.long (x + y) :: st) h
    | _ => none
  | .lmul => match st with
    | .long y :: .long x :: st => zgo k (pc + 1) ls (.long (x * y) :: st) h
    | _ => none
  | .lcmp => match st with
    | .long y :: .long x :: st => zgo k (pc + 1) ls (.int (lg_cmp x y) :: st) h
    | _ => none
  | .i2b => match st with
    | .int x :: st => zgo k (pc + 1) ls (.int x.toInt8.toInt32 :: st) h
    | _ => none
  | .dup => match st with
    | v :: st => if v.category = 1 then zgo k (pc + 1) ls (v :: v :: st) h else none
    | _ => none
  | .dup2 => match st with
    | v :: w :: st => if v.category = 1 ∧ w.category = 1 then zgo k (pc + 1) ls (v :: w :: v :: w :: st) h else none
    | _ => none
  | .goto off => zjp k (zTg pc off) ls st h
  | .ifCond c off => match st with
    | .int x :: st => match zTg pc off with
      | some t => if zcmp c x 0 = true then zgo k t ls st h else zgo k (pc + 3) ls st h
      | none => none
    | _ => none
  | .if_icmp c off => match st with
    | .int y :: .int x :: st => match zTg pc off with
      | some t => if zcmp c x y = true then zgo k t ls st h else zgo k (pc + 3) ls st h
      | none => none
    | _ => none
  | .tableswitch d lo hi offs => match st with
    | .int x :: st => zjp k (zsw pc d lo hi offs x) ls st h
    | _ => none
  | .lookupswitch d ps => match st with
    | .int x :: st => if (ps.toList.zip (ps.toList.drop 1)).all (fun (a, next) => a.1 < next.1) = true then zjp k (zTg pc (Op.lookupswitch.offset ps.toList d x.toInt)) ls st h else none
    | _ => none
  | .getfield i => match zF M.2.2.2.2.1 i, st with
    | some (ci, j), .ref a :: st => if zok h.1 a ci = true then (match zcl (zTy ci j) with
        | 0 => zgo k (pc + 3) ls (.int (h.2.1 a j) :: st) h
        | 3 => zgo k (pc + 3) ls (.int (h.2.1 a j) :: st) h
        | 1 => zgo k (pc + 3) ls (.long (h.2.2.2 a j) :: st) h
        | 2 => zgo k (pc + 3) ls (va_rf (h.2.2.1 a j) :: st) h
        | _ => none) else none
    | _, _ => none
  | .putfield i => match zF M.2.2.2.2.1 i, st with
    | some (ci, j), v :: .ref a :: st => if zok h.1 a ci = true ∧ ((zCl[ci]?).map (fun r => (r.2.1 j).2.2.2) = some false ∨ ((zCl[ci]?).map (fun r => (r.2.1 j).2.2.2) = some true ∧ M.1.name = "<init>" ∧ (zCl[ci]?).map (fun r => (r.2.1 j).1) = some (zRN M.2.2.2.2.1))) then (match zcl (zTy ci j), v with
        | 0, .int x => zgo k (pc + 3) ls st (h.1, zU h.2.1 a j x, h.2.2.1, h.2.2.2)
        | 3, .int x => if x = 0 ∨ x = 1 then zgo k (pc + 3) ls st (h.1, zU h.2.1 a j x, h.2.2.1, h.2.2.2) else none
        | 1, .long x => zgo k (pc + 3) ls st (h.1, h.2.1, h.2.2.1, zU h.2.2.2 a j x)
        | 2, .ref x => zgo k (pc + 3) ls st (h.1, h.2.1, zU h.2.2.1 a j (some x), h.2.2.2)
        | _, _ => none) else none
    | _, _ => none
  | .new i => match zC M.2.2.2.2.1 i with
    | some ci => if (zCl[ci]?).map (fun r => r.2.2) = some (zK h.1).2 ∧ (zK h.1).1 = ci then zgo k (pc + 3) ls (.ref h.1 :: st) (h.1 + 1, zCr h.2.1 h.1 0, zCr h.2.2.1 h.1 none, zCr h.2.2.2 h.1 0) else none
    | none => none
  | .newarray t => match st with
    | .int x :: st => if ¬ x < 0 ∧ x.toNatClampNeg = (zK h.1).2 ∧ (zK h.1).2 ≤ 5000 ∧ ((t = .int ∧ (zK h.1).1 = 100) ∨ (t = .byte ∧ (zK h.1).1 = 101) ∨ (t = .boolean ∧ (zK h.1).1 = 102)) then
        zgo k (pc + 2) ls (.ref h.1 :: st) (h.1 + 1, zCr h.2.1 h.1 0, zCr h.2.2.1 h.1 none, zCr h.2.2.2 h.1 0) else none
    | _ => none
  | .anewarray i => match zC M.2.2.2.2.1 i, st with
    | some ci, .int x :: st => if ¬ x < 0 ∧ x.toNatClampNeg = (zK h.1).2 ∧ (zK h.1).2 ≤ 5000 ∧ ((ci = 7 ∧ (zK h.1).1 = 103) ∨ (ci = 3 ∧ (zK h.1).1 = 104)) then
        zgo k (pc + 3) ls (.ref h.1 :: st) (h.1 + 1, zCr h.2.1 h.1 0, zCr h.2.2.1 h.1 none, zCr h.2.2.2 h.1 0) else none
    | _, _ => none
  | .arraylength => match st with
    | .retAddr _ :: st => zgo k (pc + 1) ls (.int (Int32.ofNat sc.1) :: st) h
    | _ => none
  | .iaload => match st with
    | .int j :: .ref a :: st => if zok h.1 a 100 = true ∧ ¬ (j < 0 ∨ (zK a).2 ≤ j.toNatClampNeg) then zgo k (pc + 1) ls (.int (h.2.1 a j.toNatClampNeg) :: st) h else none
    | .int j :: .retAddr _ :: st => if ¬ (j < 0 ∨ sc.1 ≤ j.toNatClampNeg) then zgo k (pc + 1) ls (.int (sc.2 j.toNatClampNeg) :: st) h else none
    | _ => none
  | .baload => match st with
    | .int j :: .ref a :: st => if (zok h.1 a 101 = true ∨ zok h.1 a 102 = true) ∧ ¬ (j < 0 ∨ (zK a).2 ≤ j.toNatClampNeg) then zgo k (pc + 1) ls (.int (h.2.1 a j.toNatClampNeg) :: st) h else none
    | _ => none
  | .iastore => match st with
    | .int x :: .int j :: .ref a :: st => if zok h.1 a 100 = true ∧ ¬ (j < 0 ∨ (zK a).2 ≤ j.toNatClampNeg) then zgo k (pc + 1) ls st (h.1, zU h.2.1 a j.toNatClampNeg x, h.2.2.1, h.2.2.2) else none
    | _ => none
  | .bastore => match st with
    | .int x :: .int j :: .ref a :: st => if ¬ (j < 0 ∨ (zK a).2 ≤ j.toNatClampNeg) then
        (if zok h.1 a 101 = true then zgo k (pc + 1) ls st (h.1, zU h.2.1 a j.toNatClampNeg (vp_nar .byte x), h.2.2.1, h.2.2.2)
        else if zok h.1 a 102 = true then zgo k (pc + 1) ls st (h.1, zU h.2.1 a j.toNatClampNeg (vp_nar .boolean x), h.2.2.1, h.2.2.2) else none) else none
    | _ => none
  | .aaload => match st with
    | .int j :: .ref a :: st => if (zok h.1 a 103 = true ∨ zok h.1 a 104 = true) ∧ ¬ (j < 0 ∨ (zK a).2 ≤ j.toNatClampNeg) then zgo k (pc + 1) ls (va_rf (h.2.2.1 a j.toNatClampNeg) :: st) h else none
    | _ => none
  | .aastore => match st with
    | .ref x :: .int j :: .ref a :: st => if ((zok h.1 a 103 = true ∧ zok h.1 x 7 = true) ∨ (zok h.1 a 104 = true ∧ zok h.1 x 3 = true)) ∧ ¬ (j < 0 ∨ (zK a).2 ≤ j.toNatClampNeg) then zgo k (pc + 1) ls st (h.1, h.2.1, zU h.2.2.1 a j.toNatClampNeg (some x), h.2.2.2) else none
    | _ => none
  | .invokevirtual i => match zMr M.2.2.2.2.1 i with
    | some (k', 0, na) => match st.drop na with
      | .ref a :: rest => if (zM k').map (fun N => zok h.1 a N.2.2.2.2.1) = some true ∧ (st.take na).length = na then zcall k M pc ls (.ref a :: (st.take na).reverse) rest h k' else none
      | _ => none
    | _ => none
  | .invokespecial i => match zMr M.2.2.2.2.1 i with
    | some (_, 4, _) => match st with
      | .ref _ :: rest => if 1 ≤ M.2.2.2.2.2.1 ∧ zcat rest ≤ 8 ∧ 20 ≤ M.2.2.2.2.2.2 then zgo k (pc + 3) ls rest h else none
      | _ => none
    | some (k', 2, na) => match st.drop na with
      | .ref a :: rest => if (st.take na).length = na then zcall k M pc ls (.ref a :: (st.take na).reverse) rest h k' else none
      | _ => none
    | some (k', 3, na) => match st.drop na with
      | .ref a :: rest => if (st.take na).length = na then zcall k M pc ls (.ref a :: (st.take na).reverse) rest h k' else none
      | _ => none
    | _ => none
  | .invokestatic i => match zMr M.2.2.2.2.1 i with
    | some (_, 5, _) => match st with
      | .int y :: .int x :: rest => if 1 ≤ M.2.2.2.2.2.1 ∧ zcat rest ≤ 8 ∧ 21 ≤ M.2.2.2.2.2.2 then zgo k (pc + 3) ls (.int (if x < y then y else x) :: rest) h else none
      | _ => none
    | some (_, 6, _) => match st with
      | .int y :: .int x :: rest => if 1 ≤ M.2.2.2.2.2.1 ∧ zcat rest ≤ 8 ∧ 21 ≤ M.2.2.2.2.2.2 then zgo k (pc + 3) ls (.int (if y < x then y else x) :: rest) h else none
      | _ => none
    | some (_, 7, _) => match st with
      | .int x :: rest => if 1 ≤ M.2.2.2.2.2.1 ∧ zcat rest ≤ 8 ∧ 21 ≤ M.2.2.2.2.2.2 then zgo k (pc + 3) ls (.int (if 0 ≤ x then x else 0 - x) :: rest) h else none
      | _ => none
    | some (_, 8, _) => match st with
      | .int n :: .int dp :: .ref a :: .int sp :: .ref a0 :: rest => if (1 ≤ M.2.2.2.2.2.1 ∧ zcat rest ≤ 8 ∧ 26 ≤ M.2.2.2.2.2.2) ∧ zok h.1 a 100 = true ∧ zok h.1 a0 100 = true ∧ ¬ sp < 0 ∧ ¬ dp < 0 ∧ ¬ n < 0 ∧ sp.toNatClampNeg + n.toNatClampNeg ≤ (zK a0).2 ∧ dp.toNatClampNeg + n.toNatClampNeg ≤ (zK a).2 then
          zgo k (pc + 3) ls rest (h.1, zCp h.2.1 a0 a sp.toNatClampNeg dp.toNatClampNeg n.toNatClampNeg, h.2.2.1, h.2.2.2) else none
      | _ => none
    | some (k', 1, na) => if (st.take na).length = na then zcall k M pc ls (st.take na).reverse (st.drop na) h k' else none
    | _ => none
  | .ireturn => match st with
    | [.int x] => if M.2.2.2.1 = some .int ∨ (M.2.2.2.1 = some .boolean ∧ (x = 0 ∨ x = 1)) then some (.inl (.int x, h)) else none
    | _ => none
  | .lreturn => match st with
    | [.long x] => if M.2.2.2.1 = some .long then some (.inl (.long x, h)) else none
    | _ => none
  | .return_ => match st with
    | [] => if M.2.2.2.1 = none then some (.inl (.null, h)) else none
    | _ => none
  | _ => none
def zact (sc : zScr) (s : zSt) : Option zAc := match zM s.1 with
  | none => none
  | some M => match decode M.2.1 s.2.1 with
    | .error _ => none
    | .ok x => if x.2 = zlen x.1 x.2 then zins sc s.1 M s.2.1 s.2.2.1 s.2.2.2.1 s.2.2.2.2 x.1 else none
def zstp (rec : zSt → Option zRs) (a : Option zAc) : Option zRs := match a with
  | none => none
  | some (.inl r) => some r
  | some (.inr (.inl s)) => rec s
  | some (.inr (.inr sf)) => (rec sf.1).bind (fun x => rec (sf.2 x))
def zrun (sc : zScr) : Nat → zSt → Option zRs
  | 0, _ => none
  | n + 1, s => zstp (zrun sc n) (zact sc s)
theorem zstp_mono {r1 r2 : zSt → Option zRs} (hr : ∀ s x, r1 s = some x → r2 s = some x) {a : Option zAc} {x : zRs} (h : zstp r1 a = some x) : zstp r2 a = some x := by
  match a, h with
  | some (.inl r), h => exact h
  | some (.inr (.inl s)), h => exact hr _ _ h
  | some (.inr (.inr sf)), h =>
    simp only [zstp] at h ⊢
    obtain ⟨y, h1, h2⟩ := Option.bind_eq_some_iff.mp h
    exact Option.bind_eq_some_iff.mpr ⟨y, hr _ _ h1, hr _ _ h2⟩
theorem zrun_succ (sc : zScr) : ∀ (n : Nat) (s : zSt) (x : zRs), zrun sc n s = some x → zrun sc (n + 1) s = some x
  | 0, _, _, h => by cases h
  | n + 1, _, _, h => zstp_mono (zrun_succ sc n) h
theorem zrun_mono {sc : zScr} {n m : Nat} (h : n ≤ m) {s : zSt} {x : zRs} (hx : zrun sc n s = some x) : zrun sc m s = some x := by
  induction h with
  | refl => exact hx
  | step _ ih => exact zrun_succ sc _ _ _ ih
theorem zrun_det {sc : zScr} {n m : Nat} {s : zSt} {x y : zRs} (hx : zrun sc n s = some x) (hy : zrun sc m s = some y) : x = y := by
  have h1 := zrun_mono (Nat.le_max_left n m) hx
  have h2 := zrun_mono (Nat.le_max_right n m) hy
  exact Option.some.inj (h1.symm.trans h2)
/-- what a state comes to, if it does -/
noncomputable def zev (sc : zScr) (s : zSt) : Option zRs := @dite _ (∃ (x : zRs) (n : Nat), zrun sc n s = some x) (Classical.propDecidable _) (fun h => some h.choose) (fun _ => none)
theorem zev_iff {sc : zScr} {s : zSt} {x : zRs} : zev sc s = some x ↔ ∃ n, zrun sc n s = some x := by
  unfold zev
  constructor
  · intro h
    by_cases hc : ∃ (x : zRs) (n : Nat), zrun sc n s = some x
    · rw [dif_pos hc] at h
      obtain ⟨n, hn⟩ := hc.choose_spec
      rw [Option.some.inj h] at hn
      exact ⟨n, hn⟩
    · rw [dif_neg hc] at h
      cases h
  · intro ⟨n, hn⟩
    have hc : ∃ (x : zRs) (n : Nat), zrun sc n s = some x := ⟨x, n, hn⟩
    rw [dif_pos hc]
    obtain ⟨m, hm⟩ := hc.choose_spec
    rw [zrun_det hm hn]
theorem zev_some {sc : zScr} {s : zSt} {x : zRs} : zstp (zev sc) (zact sc s) = some x ↔ zev sc s = some x := by
  rw [zev_iff]
  constructor
  · intro h
    match ha : zact sc s, h with
    | some (.inl r), h =>
      exact ⟨1, by show zstp _ (zact sc s) = _; rw [ha]; exact h⟩
    | some (.inr (.inl s')), h =>
      obtain ⟨n, hn⟩ := zev_iff.mp h
      exact ⟨n + 1, by show zstp _ (zact sc s) = _; rw [ha]; exact hn⟩
    | some (.inr (.inr sf)), h =>
      simp only [zstp] at h
      obtain ⟨y, h1, h2⟩ := Option.bind_eq_some_iff.mp h
      obtain ⟨n, hn⟩ := zev_iff.mp h1
      obtain ⟨m, hm⟩ := zev_iff.mp h2
      refine ⟨max n m + 1, ?_⟩
      show zstp _ (zact sc s) = _
      rw [ha]
      exact Option.bind_eq_some_iff.mpr ⟨y, zrun_mono (Nat.le_max_left _ _) hn, zrun_mono (Nat.le_max_right _ _) hm⟩
  · intro ⟨n, hn⟩
    match n, hn with
    | n + 1, hn =>
      exact zstp_mono (fun s x h => zev_iff.mpr ⟨n, h⟩) hn
theorem zev_eq (sc : zScr) (s : zSt) : zev sc s = zstp (zev sc) (zact sc s) := by
  cases h : zev sc s with
  | some x => exact (zev_some.mpr h).symm
  | none =>
    cases h2 : zstp (zev sc) (zact sc s) with
    | none => rfl
    | some x => rw [zev_some.mp h2] at h; cases h
end
section
/-! THE INTERPRETER IS SOUND: what the tables say, checked; the world; each instruction by its row; calls by Met -/
def zTB : List Cond := lw_tbl.filter goodWord
def zinT (q : Nat) (w : Cond) : Bool := goodWord w && decide (lw_tbl[q]? = some w)
theorem zinT_mem {q : Nat} {w : Cond} (h : zinT q w = true) : w ∈ zTB := by
  simp only [zinT, Bool.and_eq_true, decide_eq_true_eq] at h
  exact List.mem_filter.mpr ⟨List.mem_of_getElem? h.2, h.1⟩
theorem zinT_rfl {q : Nat} {w : Cond} (h1 : goodWord w = true) (h2 : lw_tbl[q]? = some w) : w ∈ zTB := List.mem_filter.mpr ⟨List.mem_of_getElem? h2, h1⟩
def zisN : Cond → Bool
  | .methodLinkNest _ _ _ _ => true
  | _ => false
def zNest : List Cond := lw_tbl.filter zisN
def zinN (q : Nat) (w : Cond) : Bool := zisN w && decide (lw_tbl[q]? = some w)
theorem zinN_mem {q : Nat} {w : Cond} (h : zinN q w = true) : w ∈ zNest := by
  simp only [zinN, Bool.and_eq_true, decide_eq_true_eq] at h
  exact List.mem_filter.mpr ⟨List.mem_of_getElem? h.2, h.1⟩
def zFok (e : Nat × Nat × Nat × Nat × Nat) : Bool := match zCl[e.2.2.1]? with
  | some r => decide (e.2.2.2.1 < r.2.2) && (zinT e.2.2.2.2 (.fieldLink (zRN e.1) e.2.1 r.1 (r.2.1 e.2.2.2.1).2.1 (r.2.1 e.2.2.2.1).2.2.1) && decide ((r.2.1 e.2.2.2.1).1 = r.1))
  | none => false
def zMNok (k na : Nat) : Bool := match zM k, zMP[k]? with
  | some N, some P => decide (k < 185) && (zinT P.2.2.2.2 (.initialized N.1.cls) && (plainName N.1.cls && ((decide (N.1.cls ≠ "java/lang/invoke/MethodHandle") && decide (N.1.cls ≠ "java/lang/invoke/VarHandle")) && (decide ((parseMethodDescriptor N.1.desc).map (fun d => d.parameters.length) = some na) && decide (N.1.cls = zRN N.2.2.2.2.1)))))
  | _, _ => false
def zMok (e : Nat × Nat × Nat × Nat × Nat × Nat) : Bool := match e.2.2.2.1 with
  | 4 => zinT e.2.2.2.2.2 (.methodLink (zRN e.1) e.2.1 Lib.objectInit)
  | 5 => zinT e.2.2.2.2.2 (.methodLink (zRN e.1) e.2.1 Lib.Math.max.name)
  | 6 => zinT e.2.2.2.2.2 (.methodLink (zRN e.1) e.2.1 Lib.Math.min.name)
  | 7 => zinT e.2.2.2.2.2 (.methodLink (zRN e.1) e.2.1 Lib.Math.abs.name)
  | 8 => zinT e.2.2.2.2.2 (.methodLink (zRN e.1) e.2.1 arraycopyName)
  | kd => zMNok e.2.2.1 e.2.2.2.2.1 && (match zM e.2.2.1, zMP[e.2.2.1]?, kd with
    | some N, some P, 0 => zinT e.2.2.2.2.2 (.methodLink (zRN e.1) e.2.1 N.1) && (zinT P.2.1 (.instanceMethod N.1) && (zinT P.2.2.2.1 (.selects N.1.cls N.1 N.1) && decide (N.2.2.2.2.1 < 11)))
    | some N, some P, 1 => zinT e.2.2.2.2.2 (.methodLink (zRN e.1) e.2.1 N.1) && zinT P.2.2.1 (.static N.1)
    | some N, some P, 2 => zinT e.2.2.2.2.2 (.methodLink (zRN e.1) e.2.1 N.1) && (zinT P.2.1 (.instanceMethod N.1) && (decide (N.1.name = "<init>") && decide (N.2.2.2.1 = none)))
    | some N, some P, 3 => zinN e.2.2.2.2.2 (.methodLinkNest (zRN e.1) e.2.1 N.1 "HarpFences") && (zinT P.2.1 (.instanceMethod N.1) && (decide (N.1.name = "<init>") && decide (N.2.2.2.1 = none)))
    | _, _, _ => false)
set_option maxRecDepth 100000 in
theorem zFL_ok : zFL.all zFok = true := by decide +kernel
set_option maxRecDepth 100000 in
theorem zML_ok : zML.all zMok = true := by decide +kernel
set_option maxRecDepth 100000 in
theorem zCL_ok : zCL.all (fun e => match zCl[e.2.2.1]? with
  | some r => zinT e.2.2.2 (.classLink (zRN e.1) e.2.1 r.1)
  | none => false) = true := by decide +kernel
set_option maxRecDepth 100000 in
theorem zIL_ok : zIL.all (fun e => zinT e.2.2.2 (.constant (zRN e.1) e.2.1 e.2.2.1)) = true := by decide +kernel
set_option maxRecDepth 100000 in
theorem zLL_ok : zLL.all (fun e => zinT e.2.2.2 (.constantLong (zRN e.1) e.2.1 e.2.2.1)) = true := by decide +kernel
theorem zgood : ∀ w ∈ zTB, goodWord w = true := fun _ h => (List.mem_filter.mp h).2
theorem zF_spec {o i ci j : Nat} (h : zF o i = some (ci, j)) : ∃ (C : String) (T : u_T) (N : Nat), zCl[ci]? = some (C, T, N) ∧ j < N ∧ Cond.fieldLink (zRN o) i C (T j).2.1 (T j).2.2.1 ∈ zTB ∧ (T j).1 = C := by
  unfold zF at h
  obtain ⟨e, he, hv⟩ := Option.map_eq_some_iff.mp h
  have h1 := List.find?_some he
  have h2 := List.all_eq_true.mp zFL_ok e (List.mem_of_find?_eq_some he)
  simp only [Bool.and_eq_true, beq_iff_eq] at h1
  simp only [Prod.mk.injEq] at hv
  obtain ⟨rfl, rfl⟩ := h1
  obtain ⟨rfl, rfl⟩ := hv
  unfold zFok at h2
  split at h2
  · rename_i r hr
    simp only [Bool.and_eq_true, decide_eq_true_eq] at h2
    exact ⟨r.1, r.2.1, r.2.2, hr, h2.1, zinT_mem h2.2.1, h2.2.2⟩
  · cases h2
theorem zMr_spec {o i k kd na : Nat} (h : zMr o i = some (k, kd, na)) : ∃ q, zMok (o, i, k, kd, na, q) = true := by
  unfold zMr at h
  obtain ⟨e, he, hv⟩ := Option.map_eq_some_iff.mp h
  have h1 := List.find?_some he
  have h2 := List.all_eq_true.mp zML_ok e (List.mem_of_find?_eq_some he)
  simp only [Bool.and_eq_true, beq_iff_eq] at h1
  simp only [Prod.mk.injEq] at hv
  obtain ⟨rfl, rfl⟩ := h1
  obtain ⟨rfl, rfl, rfl⟩ := hv
  exact ⟨_, h2⟩
theorem zC_spec {o i ci : Nat} (h : zC o i = some ci) : ∃ (r : vw_C), zCl[ci]? = some r ∧ Cond.classLink (zRN o) i r.1 ∈ zTB := by
  unfold zC at h
  obtain ⟨e, he, hv⟩ := Option.map_eq_some_iff.mp h
  have h1 := List.find?_some he
  have h2 := List.all_eq_true.mp zCL_ok e (List.mem_of_find?_eq_some he)
  simp only [Bool.and_eq_true, beq_iff_eq] at h1
  obtain ⟨rfl, rfl⟩ := h1
  subst hv
  split at h2
  · rename_i r hr
    exact ⟨r, hr, zinT_mem h2⟩
  · cases h2
theorem zI_spec {o i : Nat} {v : Int32} (h : zI o i = some v) : Cond.constant (zRN o) i v ∈ zTB := by
  unfold zI at h
  obtain ⟨e, he, hv⟩ := Option.map_eq_some_iff.mp h
  have h1 := List.find?_some he
  have h2 := List.all_eq_true.mp zIL_ok e (List.mem_of_find?_eq_some he)
  simp only [Bool.and_eq_true, beq_iff_eq] at h1
  obtain ⟨rfl, rfl⟩ := h1
  subst hv
  exact zinT_mem h2
theorem zL_spec {o i : Nat} {v : Int64} (h : zL o i = some v) : Cond.constantLong (zRN o) i v ∈ zTB := by
  unfold zL at h
  obtain ⟨e, he, hv⟩ := Option.map_eq_some_iff.mp h
  have h1 := List.find?_some he
  have h2 := List.all_eq_true.mp zLL_ok e (List.mem_of_find?_eq_some he)
  simp only [Bool.and_eq_true, beq_iff_eq] at h1
  obtain ⟨rfl, rfl⟩ := h1
  subst hv
  exact zinT_mem h2
/-- what is known of a class -/
def zCK (ci : Nat) (r : vw_C) : Prop := (∀ w ∈ u_ws r.1 r.2.1 r.2.2, w ∈ zTB) ∧ (∀ k, k < r.2.2 → parseFieldDescriptor (r.2.1 k).2.2.1 = some (zTy ci k)) ∧ (∀ a, a < r.2.2 → ∀ b, b < r.2.2 → a ≠ b → (r.2.1 a).2.1 ≠ (r.2.1 b).2.1) ∧ Cond.instantiable r.1 r.2.2 ∈ zTB ∧ Cond.initialized r.1 ∈ zTB
set_option maxRecDepth 100000 in
theorem zCKw0 : ∀ w ∈ u_ws RX0 TX0 5, w ∈ lw_tbl ∧ goodWord w = true := by decide +kernel
set_option maxRecDepth 100000 in
theorem zCK0 : zCK 0 (RX0, TX0, 5) := ⟨fun w h => List.mem_filter.mpr (zCKw0 w h), tyX0_ok, nmX0, zinT_mem (q := 343) (by decide +kernel), zinT_mem (q := 75) (by decide +kernel)⟩
set_option maxRecDepth 100000 in
theorem zCKw1 : ∀ w ∈ u_ws RX1 TX1 2, w ∈ lw_tbl ∧ goodWord w = true := by decide +kernel
set_option maxRecDepth 100000 in
theorem zCK1 : zCK 1 (RX1, TX1, 2) := ⟨fun w h => List.mem_filter.mpr (zCKw1 w h), tyX1_ok, nmX1, zinT_mem (q := 249) (by decide +kernel), zinT_mem (q := 71) (by decide +kernel)⟩
set_option maxRecDepth 100000 in
theorem zCKw2 : ∀ w ∈ u_ws RX2 TX2 7, w ∈ lw_tbl ∧ goodWord w = true := by decide +kernel
set_option maxRecDepth 100000 in
theorem zCK2 : zCK 2 (RX2, TX2, 7) := ⟨fun w h => List.mem_filter.mpr (zCKw2 w h), tyX2_ok, nmX2, zinT_mem (q := 289) (by decide +kernel), zinT_mem (q := 73) (by decide +kernel)⟩
set_option maxRecDepth 100000 in
theorem zCKw3 : ∀ w ∈ u_ws RX3 TX3 3, w ∈ lw_tbl ∧ goodWord w = true := by decide +kernel
set_option maxRecDepth 100000 in
theorem zCK3 : zCK 3 (RX3, TX3, 3) := ⟨fun w h => List.mem_filter.mpr (zCKw3 w h), tyX3_ok, nmX3, zinT_mem (q := 367) (by decide +kernel), zinT_mem (q := 77) (by decide +kernel)⟩
set_option maxRecDepth 100000 in
theorem zCKw4 : ∀ w ∈ u_ws RX4 TX4 12, w ∈ lw_tbl ∧ goodWord w = true := by decide +kernel
set_option maxRecDepth 100000 in
theorem zCK4 : zCK 4 (RX4, TX4, 12) := ⟨fun w h => List.mem_filter.mpr (zCKw4 w h), tyX4_ok, nmX4, zinT_mem (q := 120) (by decide +kernel), zinT_mem (q := 69) (by decide +kernel)⟩
set_option maxRecDepth 100000 in
theorem zCKw5 : ∀ w ∈ u_ws RX5 TX5 3, w ∈ lw_tbl ∧ goodWord w = true := by decide +kernel
set_option maxRecDepth 100000 in
theorem zCK5 : zCK 5 (RX5, TX5, 3) := ⟨fun w h => List.mem_filter.mpr (zCKw5 w h), tyX5_ok, nmX5, zinT_mem (q := 267) (by decide +kernel), zinT_mem (q := 72) (by decide +kernel)⟩
set_option maxRecDepth 100000 in
theorem zCKw6 : ∀ w ∈ u_ws RX6 TX6 6, w ∈ lw_tbl ∧ goodWord w = true := by decide +kernel
set_option maxRecDepth 100000 in
theorem zCK6 : zCK 6 (RX6, TX6, 6) := ⟨fun w h => List.mem_filter.mpr (zCKw6 w h), tyX6_ok, nmX6, zinT_mem (q := 318) (by decide +kernel), zinT_mem (q := 74) (by decide +kernel)⟩
set_option maxRecDepth 100000 in
theorem zCKw7 : ∀ w ∈ u_ws RX7 TX7 7, w ∈ lw_tbl ∧ goodWord w = true := by decide +kernel
set_option maxRecDepth 100000 in
theorem zCK7 : zCK 7 (RX7, TX7, 7) := ⟨fun w h => List.mem_filter.mpr (zCKw7 w h), tyX7_ok, nmX7, zinT_mem (q := 207) (by decide +kernel), zinT_mem (q := 70) (by decide +kernel)⟩
set_option maxRecDepth 100000 in
theorem zCKw8 : ∀ w ∈ u_ws RX8 TX8 7, w ∈ lw_tbl ∧ goodWord w = true := by decide +kernel
set_option maxRecDepth 100000 in
theorem zCK8 : zCK 8 (RX8, TX8, 7) := ⟨fun w h => List.mem_filter.mpr (zCKw8 w h), tyX8_ok, nmX8, zinT_mem (q := 90) (by decide +kernel), zinT_mem (q := 68) (by decide +kernel)⟩
set_option maxRecDepth 100000 in
theorem zCKw9 : ∀ w ∈ u_ws RX9 TX9 11, w ∈ lw_tbl ∧ goodWord w = true := by decide +kernel
set_option maxRecDepth 100000 in
theorem zCK9 : zCK 9 (RX9, TX9, 11) := ⟨fun w h => List.mem_filter.mpr (zCKw9 w h), tyX9_ok, nmX9, zinT_mem (q := 82) (by decide +kernel), zinT_mem (q := 67) (by decide +kernel)⟩
set_option maxRecDepth 100000 in
theorem zCKw10 : ∀ w ∈ u_ws RX10 TX10 32, w ∈ lw_tbl ∧ goodWord w = true := by decide +kernel
set_option maxRecDepth 100000 in
theorem zCK10 : zCK 10 (RX10, TX10, 32) := ⟨fun w h => List.mem_filter.mpr (zCKw10 w h), tyX10_ok, nmX10, zinT_mem (q := 894) (by decide +kernel), zinT_mem (q := 79) (by decide +kernel)⟩
theorem zCK_of {ci : Nat} {r : vw_C} (h : zCl[ci]? = some r) : ci < 11 ∧ zCK ci r := by
  match ci, h with
  | 0, h => cases h; exact ⟨by decide, zCK0⟩
  | 1, h => cases h; exact ⟨by decide, zCK1⟩
  | 2, h => cases h; exact ⟨by decide, zCK2⟩
  | 3, h => cases h; exact ⟨by decide, zCK3⟩
  | 4, h => cases h; exact ⟨by decide, zCK4⟩
  | 5, h => cases h; exact ⟨by decide, zCK5⟩
  | 6, h => cases h; exact ⟨by decide, zCK6⟩
  | 7, h => cases h; exact ⟨by decide, zCK7⟩
  | 8, h => cases h; exact ⟨by decide, zCK8⟩
  | 9, h => cases h; exact ⟨by decide, zCK9⟩
  | 10, h => cases h; exact ⟨by decide, zCK10⟩
  | ci + 11, h => exact absurd h (by simp [zCl])
set_option maxRecDepth 100000 in
theorem zCD0 : Cond.code yX0_init cX0_init 2 none ∈ zTB := zinT_rfl (q := 346) rfl rfl
set_option maxRecDepth 100000 in
theorem zCD1 : Cond.code yX0_alike cX0_alike 3 (some .int) ∈ zTB := zinT_rfl (q := 616) rfl rfl
set_option maxRecDepth 100000 in
theorem zCD2 : Cond.code yX0_fewestTuned cX0_fewestTuned 1 (some .int) ∈ zTB := zinT_rfl (q := 634) rfl rfl
set_option maxRecDepth 100000 in
theorem zCD3 : Cond.code yX0_fewestEars cX0_fewestEars 2 (some .int) ∈ zTB := zinT_rfl (q := 646) rfl rfl
set_option maxRecDepth 100000 in
theorem zCD4 : Cond.code yX0_partnerAlikes cX0_partnerAlikes 3 none ∈ zTB := zinT_rfl (q := 620) rfl rfl
set_option maxRecDepth 100000 in
theorem zCD5 : Cond.code yX0_areAlike cX0_areAlike 3 (some .boolean) ∈ zTB := zinT_rfl (q := 624) rfl rfl
set_option maxRecDepth 100000 in
theorem zCD6 : Cond.code yX0_fewestOfEachTwo cX0_fewestOfEachTwo 4 (some .int) ∈ zTB := zinT_rfl (q := 638) rfl rfl
set_option maxRecDepth 100000 in
theorem zCD7 : Cond.code yX0_hasOneOfEachTwo cX0_hasOneOfEachTwo 4 (some .boolean) ∈ zTB := zinT_rfl (q := 642) rfl rfl
set_option maxRecDepth 100000 in
theorem zCD8 : Cond.code yX0_mostMilk cX0_mostMilk 1 (some .int) ∈ zTB := zinT_rfl (q := 781) rfl rfl
set_option maxRecDepth 100000 in
theorem zCD9 : Cond.code yX0_fieldInHerd cX0_fieldInHerd 5 (some .int) ∈ zTB := zinT_rfl (q := 794) rfl rfl
set_option maxRecDepth 100000 in
theorem zCD10 : Cond.code yX0_bestField cX0_bestField 4 (some .int) ∈ zTB := zinT_rfl (q := 798) rfl rfl
set_option maxRecDepth 100000 in
theorem zCD11 : Cond.code yX0_measureHerds cX0_measureHerds 4 none ∈ zTB := zinT_rfl (q := 785) rfl rfl
set_option maxRecDepth 100000 in
theorem zCD12 : Cond.code yX0_milkWith cX0_milkWith 4 (some .int) ∈ zTB := zinT_rfl (q := 790) rfl rfl
set_option maxRecDepth 100000 in
theorem zCD13 : Cond.code yX1_init cX1_init 3 none ∈ zTB := zinT_rfl (q := 252) rfl rfl
set_option maxRecDepth 100000 in
theorem zCD14 : Cond.code yX1_isString cX1_isString 2 (some .boolean) ∈ zTB := zinT_rfl (q := 547) rfl rfl
set_option maxRecDepth 100000 in
theorem zCD15 : Cond.code yX1_soundTo cX1_soundTo 3 (some .int) ∈ zTB := zinT_rfl (q := 543) rfl rfl
set_option maxRecDepth 100000 in
theorem zCD16 : Cond.code yX1_fifthsAt cX1_fifthsAt 5 (some .int) ∈ zTB := zinT_rfl (q := 766) rfl rfl
set_option maxRecDepth 100000 in
theorem zCD17 : Cond.code yX1_isStringAt cX1_isStringAt 3 (some .boolean) ∈ zTB := zinT_rfl (q := 770) rfl rfl
set_option maxRecDepth 100000 in
theorem zCD18 : Cond.code yX1_beastsThatSound cX1_beastsThatSound 5 (some .int) ∈ zTB := zinT_rfl (q := 658) rfl rfl
set_option maxRecDepth 100000 in
theorem zCD19 : Cond.code yX2_init cX2_init 2 none ∈ zTB := zinT_rfl (q := 292) rfl rfl
set_option maxRecDepth 100000 in
theorem zCD20 : Cond.code yX2_takes cX2_takes 2 (some .boolean) ∈ zTB := zinT_rfl (q := 668) rfl rfl
set_option maxRecDepth 100000 in
theorem zCD21 : Cond.code yX2_rowsFrom cX2_rowsFrom 5 (some .int) ∈ zTB := zinT_rfl (q := 684) rfl rfl
set_option maxRecDepth 100000 in
theorem zCD22 : Cond.code yX2_crossAll cX2_crossAll 6 none ∈ zTB := zinT_rfl (q := 688) rfl rfl
set_option maxRecDepth 100000 in
theorem zCD23 : Cond.code yX2_endsOf cX2_endsOf 4 (some .int) ∈ zTB := zinT_rfl (q := 698) rfl rfl
set_option maxRecDepth 100000 in
theorem zCD24 : Cond.code yX2_endsBehind cX2_endsBehind 6 (some .int) ∈ zTB := zinT_rfl (q := 702) rfl rfl
set_option maxRecDepth 100000 in
theorem zCD25 : Cond.code yX2_kindsThatCan cX2_kindsThatCan 3 (some .int) ∈ zTB := zinT_rfl (q := 710) rfl rfl
set_option maxRecDepth 100000 in
theorem zCD26 : Cond.code yX2_fenceToWatch cX2_fenceToWatch 5 (some .int) ∈ zTB := zinT_rfl (q := 719) rfl rfl
set_option maxRecDepth 100000 in
theorem zCD27 : Cond.code yX2_greatestCrowd cX2_greatestCrowd 6 (some .int) ∈ zTB := zinT_rfl (q := 723) rfl rfl
set_option maxRecDepth 100000 in
theorem zCD28 : Cond.code yX2_comesTo cX2_comesTo 3 (some .boolean) ∈ zTB := zinT_rfl (q := 727) rfl rfl
set_option maxRecDepth 100000 in
theorem zCD29 : Cond.code yX3_init cX3_init 1 none ∈ zTB := zinT_rfl (q := 370) rfl rfl
set_option maxRecDepth 100000 in
theorem zCD30 : Cond.code yX3_take cX3_take 3 none ∈ zTB := zinT_rfl (q := 871) rfl rfl
set_option maxRecDepth 100000 in
theorem zCD31 : Cond.code yX3_give cX3_give 3 none ∈ zTB := zinT_rfl (q := 884) rfl rfl
set_option maxRecDepth 100000 in
theorem zCD32 : Cond.code yX4_init cX4_init 1 none ∈ zTB := zinT_rfl (q := 123) rfl rfl
set_option maxRecDepth 100000 in
theorem zCD33 : Cond.code yX4_begin cX4_begin 1 none ∈ zTB := zinT_rfl (q := 390) rfl rfl
set_option maxRecDepth 100000 in
theorem zCD34 : Cond.code yX4_copyFrom cX4_copyFrom 2 none ∈ zTB := zinT_rfl (q := 509) rfl rfl
set_option maxRecDepth 100000 in
theorem zCD35 : Cond.code yX4_isAt cX4_isAt 3 (some .boolean) ∈ zTB := zinT_rfl (q := 556) rfl rfl
set_option maxRecDepth 100000 in
theorem zCD36 : Cond.code yX4_across cX4_across 3 (some .int) ∈ zTB := zinT_rfl (q := 569) rfl rfl
set_option maxRecDepth 100000 in
theorem zCD37 : Cond.code yX4_endBits cX4_endBits 2 (some .int) ∈ zTB := zinT_rfl (q := 629) rfl rfl
set_option maxRecDepth 100000 in
theorem zCD38 : Cond.code yX5_init cX5_init 2 none ∈ zTB := zinT_rfl (q := 270) rfl rfl
set_option maxRecDepth 100000 in
theorem zCD39 : Cond.code yX5_note cX5_note 2 none ∈ zTB := zinT_rfl (q := 560) rfl rfl
set_option maxRecDepth 100000 in
theorem zCD40 : Cond.code yX5_restore cX5_restore 2 none ∈ zTB := zinT_rfl (q := 607) rfl rfl
set_option maxRecDepth 100000 in
theorem zCD41 : Cond.code yX5_copyFrom cX5_copyFrom 3 none ∈ zTB := zinT_rfl (q := 876) rfl rfl
set_option maxRecDepth 100000 in
theorem zCD42 : Cond.code yX6_init cX6_init 2 none ∈ zTB := zinT_rfl (q := 321) rfl rfl
set_option maxRecDepth 100000 in
theorem zCD43 : Cond.code yX6_fewestHeard cX6_fewestHeard 4 (some .int) ∈ zTB := zinT_rfl (q := 737) rfl rfl
set_option maxRecDepth 100000 in
theorem zCD44 : Cond.code yX6_fewestCrossings cX6_fewestCrossings 4 (some .int) ∈ zTB := zinT_rfl (q := 752) rfl rfl
set_option maxRecDepth 100000 in
theorem zCD45 : Cond.code yX6_firstFence cX6_firstFence 5 (some .int) ∈ zTB := zinT_rfl (q := 756) rfl rfl
set_option maxRecDepth 100000 in
theorem zCD46 : Cond.code yX6_costOf cX6_costOf 3 (some .int) ∈ zTB := zinT_rfl (q := 746) rfl rfl
set_option maxRecDepth 100000 in
theorem zCD47 : Cond.code yX6_measure cX6_measure 8 none ∈ zTB := zinT_rfl (q := 741) rfl rfl
set_option maxRecDepth 100000 in
theorem zCD48 : Cond.code yX6_frostParts cX6_frostParts 4 (some .int) ∈ zTB := zinT_rfl (q := 806) rfl rfl
set_option maxRecDepth 100000 in
theorem zCD49 : Cond.code yX6_frostUnheard cX6_frostUnheard 8 (some .int) ∈ zTB := zinT_rfl (q := 813) rfl rfl
set_option maxRecDepth 100000 in
theorem zCD50 : Cond.code yX6_snappedFences cX6_snappedFences 4 (some .int) ∈ zTB := zinT_rfl (q := 818) rfl rfl
set_option maxRecDepth 100000 in
theorem zCD51 : Cond.code yX6_reaches cX6_reaches 7 (some .boolean) ∈ zTB := zinT_rfl (q := 822) rfl rfl
set_option maxRecDepth 100000 in
theorem zCD52 : Cond.code yX6_power cX6_power 4 (some .int) ∈ zTB := zinT_rfl (q := 809) rfl rfl
set_option maxRecDepth 100000 in
theorem zCD53 : Cond.code yX6_commonDivisor cX6_commonDivisor 6 (some .int) ∈ zTB := zinT_rfl (q := 826) rfl rfl
set_option maxRecDepth 100000 in
theorem zCD54 : Cond.code yX7_init cX7_init 1 none ∈ zTB := zinT_rfl (q := 210) rfl rfl
set_option maxRecDepth 100000 in
theorem zCD55 : Cond.code yX7_begin cX7_begin 2 none ∈ zTB := zinT_rfl (q := 398) rfl rfl
set_option maxRecDepth 100000 in
theorem zCD56 : Cond.code yX7_copyFrom cX7_copyFrom 2 none ∈ zTB := zinT_rfl (q := 564) rfl rfl
set_option maxRecDepth 100000 in
theorem zCD57 : Cond.code yX7_sing cX7_sing 2 none ∈ zTB := zinT_rfl (q := 573) rfl rfl
set_option maxRecDepth 100000 in
theorem zCD58 : Cond.code yX8_init cX8_init 1 none ∈ zTB := zinT_rfl (q := 93) rfl rfl
set_option maxRecDepth 100000 in
theorem zCD59 : Cond.code yX8_takes cX8_takes 2 (some .boolean) ∈ zTB := zinT_rfl (q := 443) rfl rfl
set_option maxRecDepth 100000 in
theorem zCD60 : Cond.code yX8_tell cX8_tell 4 (some .int) ∈ zTB := zinT_rfl (q := 455) rfl rfl
set_option maxRecDepth 100000 in
theorem zCD61 : Cond.code yX8_tellsFields cX8_tellsFields 2 (some .boolean) ∈ zTB := zinT_rfl (q := 481) rfl rfl
set_option maxRecDepth 100000 in
theorem zCD62 : Cond.code yX8_tellsFence cX8_tellsFence 3 (some .boolean) ∈ zTB := zinT_rfl (q := 489) rfl rfl
set_option maxRecDepth 100000 in
theorem zCD63 : Cond.code yX8_tellsKind cX8_tellsKind 3 (some .boolean) ∈ zTB := zinT_rfl (q := 493) rfl rfl
set_option maxRecDepth 100000 in
theorem zCD64 : Cond.code yX8_tellsBeast cX8_tellsBeast 3 (some .boolean) ∈ zTB := zinT_rfl (q := 497) rfl rfl
set_option maxRecDepth 100000 in
theorem zCD65 : Cond.code yX8_tellsWet cX8_tellsWet 2 (some .boolean) ∈ zTB := zinT_rfl (q := 501) rfl rfl
set_option maxRecDepth 100000 in
theorem zCD66 : Cond.code yX8_number cX8_number 3 (some .boolean) ∈ zTB := zinT_rfl (q := 485) rfl rfl
set_option maxRecDepth 100000 in
theorem zCD67 : Cond.code yX8_stops cX8_stops 1 (some .boolean) ∈ zTB := zinT_rfl (q := 505) rfl rfl
set_option maxRecDepth 100000 in
theorem zCD68 : Cond.code yX8_step cX8_step 1 none ∈ zTB := zinT_rfl (q := 460) rfl rfl
set_option maxRecDepth 100000 in
theorem zCD69 : Cond.code yX8_stepLetters cX8_stepLetters 1 none ∈ zTB := zinT_rfl (q := 467) rfl rfl
set_option maxRecDepth 100000 in
theorem zCD70 : Cond.code yX8_stepNumber cX8_stepNumber 2 none ∈ zTB := zinT_rfl (q := 474) rfl rfl
set_option maxRecDepth 100000 in
theorem zCD71 : Cond.code yX8_isLetter cX8_isLetter 1 (some .boolean) ∈ zTB := zinT_rfl (q := 463) rfl rfl
set_option maxRecDepth 100000 in
theorem zCD72 : Cond.code yX8_isDigit cX8_isDigit 1 (some .boolean) ∈ zTB := zinT_rfl (q := 470) rfl rfl
set_option maxRecDepth 100000 in
theorem zCD73 : Cond.code yX9_init cX9_init 2 none ∈ zTB := zinT_rfl (q := 85) rfl rfl
set_option maxRecDepth 100000 in
theorem zCD74 : Cond.code yX9_type cX9_type 2 (some .int) ∈ zTB := zinT_rfl (q := 439) rfl rfl
set_option maxRecDepth 100000 in
theorem zCD75 : Cond.code yX9_clear cX9_clear 2 (some .int) ∈ zTB := zinT_rfl (q := 447) rfl rfl
set_option maxRecDepth 100000 in
theorem zCD76 : Cond.code yX9_downs cX9_downs 2 (some .int) ∈ zTB := zinT_rfl (q := 451) rfl rfl
set_option maxRecDepth 100000 in
theorem zCD77 : Cond.code yX9_fence cX9_fence 3 (some .int) ∈ zTB := zinT_rfl (q := 514) rfl rfl
set_option maxRecDepth 100000 in
theorem zCD78 : Cond.code yX9_kind cX9_kind 3 (some .int) ∈ zTB := zinT_rfl (q := 522) rfl rfl
set_option maxRecDepth 100000 in
theorem zCD79 : Cond.code yX9_beast cX9_beast 3 (some .int) ∈ zTB := zinT_rfl (q := 531) rfl rfl
set_option maxRecDepth 100000 in
theorem zCD80 : Cond.code yX9_sound cX9_sound 3 (some .int) ∈ zTB := zinT_rfl (q := 539) rfl rfl
set_option maxRecDepth 100000 in
theorem zCD81 : Cond.code yX9_goes cX9_goes 5 (some .int) ∈ zTB := zinT_rfl (q := 552) rfl rfl
set_option maxRecDepth 100000 in
theorem zCD82 : Cond.code yX9_cuts cX9_cuts 3 (some .int) ∈ zTB := zinT_rfl (q := 578) rfl rfl
set_option maxRecDepth 100000 in
theorem zCD83 : Cond.code yX9_tunes cX9_tunes 4 (some .int) ∈ zTB := zinT_rfl (q := 591) rfl rfl
set_option maxRecDepth 100000 in
theorem zCD84 : Cond.code yX9_lays cX9_lays 3 (some .int) ∈ zTB := zinT_rfl (q := 595) rfl rfl
set_option maxRecDepth 100000 in
theorem zCD85 : Cond.code yX9_rains cX9_rains 3 (some .int) ∈ zTB := zinT_rfl (q := 599) rfl rfl
set_option maxRecDepth 100000 in
theorem zCD86 : Cond.code yX9_undo cX9_undo 1 (some .int) ∈ zTB := zinT_rfl (q := 603) rfl rfl
set_option maxRecDepth 100000 in
theorem zCD87 : Cond.code yX9_now cX9_now 2 (some .int) ∈ zTB := zinT_rfl (q := 612) rfl rfl
set_option maxRecDepth 100000 in
theorem zCD88 : Cond.code yX9_song cX9_song 2 (some .int) ∈ zTB := zinT_rfl (q := 650) rfl rfl
set_option maxRecDepth 100000 in
theorem zCD89 : Cond.code yX9_who cX9_who 2 (some .int) ∈ zTB := zinT_rfl (q := 654) rfl rfl
set_option maxRecDepth 100000 in
theorem zCD90 : Cond.code yX9_hears cX9_hears 2 (some .int) ∈ zTB := zinT_rfl (q := 664) rfl rfl
set_option maxRecDepth 100000 in
theorem zCD91 : Cond.code yX9_forget cX9_forget 2 (some .int) ∈ zTB := zinT_rfl (q := 672) rfl rfl
set_option maxRecDepth 100000 in
theorem zCD92 : Cond.code yX9_ways cX9_ways 3 (some .int) ∈ zTB := zinT_rfl (q := 676) rfl rfl
set_option maxRecDepth 100000 in
theorem zCD93 : Cond.code yX9_ends cX9_ends 2 (some .int) ∈ zTB := zinT_rfl (q := 694) rfl rfl
set_option maxRecDepth 100000 in
theorem zCD94 : Cond.code yX9_can cX9_can 1 (some .int) ∈ zTB := zinT_rfl (q := 706) rfl rfl
set_option maxRecDepth 100000 in
theorem zCD95 : Cond.code yX9_ask cX9_ask 1 (some .int) ∈ zTB := zinT_rfl (q := 715) rfl rfl
set_option maxRecDepth 100000 in
theorem zCD96 : Cond.code yX9_quiet cX9_quiet 5 (some .int) ∈ zTB := zinT_rfl (q := 733) rfl rfl
set_option maxRecDepth 100000 in
theorem zCD97 : Cond.code yX9_fifths cX9_fifths 2 (some .int) ∈ zTB := zinT_rfl (q := 762) rfl rfl
set_option maxRecDepth 100000 in
theorem zCD98 : Cond.code yX9_herd cX9_herd 2 (some .int) ∈ zTB := zinT_rfl (q := 777) rfl rfl
set_option maxRecDepth 100000 in
theorem zCD99 : Cond.code yX9_frost cX9_frost 10 (some .int) ∈ zTB := zinT_rfl (q := 802) rfl rfl
set_option maxRecDepth 100000 in
theorem zCD100 : Cond.code yX9_mark cX9_mark 3 (some .int) ∈ zTB := zinT_rfl (q := 831) rfl rfl
set_option maxRecDepth 100000 in
theorem zCD101 : Cond.code yX9_keep cX9_keep 2 (some .int) ∈ zTB := zinT_rfl (q := 864) rfl rfl
set_option maxRecDepth 100000 in
theorem zCD102 : Cond.code yX9_back cX9_back 2 (some .int) ∈ zTB := zinT_rfl (q := 880) rfl rfl
set_option maxRecDepth 100000 in
theorem zCD103 : Cond.code yX9_count cX9_count 2 (some .int) ∈ zTB := zinT_rfl (q := 888) rfl rfl
set_option maxRecDepth 100000 in
theorem zCD104 : Cond.code yX9_trace cX9_trace 1 (some .long) ∈ zTB := zinT_rfl (q := 892) rfl rfl
set_option maxRecDepth 100000 in
theorem zCD105 : Cond.code yX9_beginAnew cX9_beginAnew 2 none ∈ zTB := zinT_rfl (q := 394) rfl rfl
set_option maxRecDepth 100000 in
theorem zCD106 : Cond.code yX9_isField cX9_isField 2 (some .boolean) ∈ zTB := zinT_rfl (q := 680) rfl rfl
set_option maxRecDepth 100000 in
theorem zCD107 : Cond.code yX9_isFence cX9_isFence 2 (some .boolean) ∈ zTB := zinT_rfl (q := 518) rfl rfl
set_option maxRecDepth 100000 in
theorem zCD108 : Cond.code yX9_isKind cX9_isKind 2 (some .boolean) ∈ zTB := zinT_rfl (q := 526) rfl rfl
set_option maxRecDepth 100000 in
theorem zCD109 : Cond.code yX9_isBeast cX9_isBeast 2 (some .boolean) ∈ zTB := zinT_rfl (q := 535) rfl rfl
set_option maxRecDepth 100000 in
theorem zCD110 : Cond.code yX9_isImage cX9_isImage 1 (some .boolean) ∈ zTB := zinT_rfl (q := 867) rfl rfl
set_option maxRecDepth 100000 in
theorem zCD111 : Cond.code yX9_isFlag cX9_isFlag 1 (some .boolean) ∈ zTB := zinT_rfl (q := 581) rfl rfl
set_option maxRecDepth 100000 in
theorem zCD112 : Cond.code yX9_markString cX9_markString 2 (some .int) ∈ zTB := zinT_rfl (q := 835) rfl rfl
set_option maxRecDepth 100000 in
theorem zCD113 : Cond.code yX9_markBass cX9_markBass 2 (some .int) ∈ zTB := zinT_rfl (q := 839) rfl rfl
set_option maxRecDepth 100000 in
theorem zCD114 : Cond.code yX9_markTreble cX9_markTreble 2 (some .int) ∈ zTB := zinT_rfl (q := 844) rfl rfl
set_option maxRecDepth 100000 in
theorem zCD115 : Cond.code yX9_markBull cX9_markBull 2 (some .int) ∈ zTB := zinT_rfl (q := 849) rfl rfl
set_option maxRecDepth 100000 in
theorem zCD116 : Cond.code yX9_markLark cX9_markLark 2 (some .int) ∈ zTB := zinT_rfl (q := 854) rfl rfl
set_option maxRecDepth 100000 in
theorem zCD117 : Cond.code yX9_markPedal cX9_markPedal 2 (some .int) ∈ zTB := zinT_rfl (q := 859) rfl rfl
set_option maxRecDepth 100000 in
theorem zCD118 : Cond.code yX10_init cX10_init 1 none ∈ zTB := zinT_rfl (q := 897) rfl rfl
set_option maxRecDepth 100000 in
theorem zCD119 : Cond.code yX10_in cX10_in 3 (some .boolean) ∈ zTB := zinT_rfl (q := 1004) rfl rfl
set_option maxRecDepth 100000 in
theorem zCD120 : Cond.code yX10_has cX10_has 2 (some .boolean) ∈ zTB := zinT_rfl (q := 1051) rfl rfl
set_option maxRecDepth 100000 in
theorem zCD121 : Cond.code yX10_type cX10_type 2 (some .int) ∈ zTB := zinT_rfl (q := 1001) rfl rfl
set_option maxRecDepth 100000 in
theorem zCD122 : Cond.code yX10_clear cX10_clear 2 (some .int) ∈ zTB := zinT_rfl (q := 1008) rfl rfl
set_option maxRecDepth 100000 in
theorem zCD123 : Cond.code yX10_here cX10_here 1 (some .int) ∈ zTB := zinT_rfl (q := 1024) rfl rfl
set_option maxRecDepth 100000 in
theorem zCD124 : Cond.code yX10_step cX10_step 2 none ∈ zTB := zinT_rfl (q := 1020) rfl rfl
set_option maxRecDepth 100000 in
theorem zCD125 : Cond.code yX10_due cX10_due 2 none ∈ zTB := zinT_rfl (q := 1032) rfl rfl
set_option maxRecDepth 100000 in
theorem zCD126 : Cond.code yX10_number cX10_number 4 (some .int) ∈ zTB := zinT_rfl (q := 1040) rfl rfl
set_option maxRecDepth 100000 in
theorem zCD127 : Cond.code yX10_item cX10_item 4 none ∈ zTB := zinT_rfl (q := 1036) rfl rfl
set_option maxRecDepth 100000 in
theorem zCD128 : Cond.code yX10_may cX10_may 3 (some .boolean) ∈ zTB := zinT_rfl (q := 1028) rfl rfl
set_option maxRecDepth 100000 in
theorem zCD129 : Cond.code yX10_read cX10_read 3 none ∈ zTB := zinT_rfl (q := 1016) rfl rfl
set_option maxRecDepth 100000 in
theorem zCD130 : Cond.code yX10_downs cX10_downs 2 (some .int) ∈ zTB := zinT_rfl (q := 1012) rfl rfl
set_option maxRecDepth 100000 in
theorem zCD131 : Cond.code yX10_isField cX10_isField 2 (some .boolean) ∈ zTB := zinT_rfl (q := 1174) rfl rfl
set_option maxRecDepth 100000 in
theorem zCD132 : Cond.code yX10_isFence cX10_isFence 2 (some .boolean) ∈ zTB := zinT_rfl (q := 1048) rfl rfl
set_option maxRecDepth 100000 in
theorem zCD133 : Cond.code yX10_isKind cX10_isKind 2 (some .boolean) ∈ zTB := zinT_rfl (q := 1059) rfl rfl
set_option maxRecDepth 100000 in
theorem zCD134 : Cond.code yX10_isBeast cX10_isBeast 2 (some .boolean) ∈ zTB := zinT_rfl (q := 1068) rfl rfl
set_option maxRecDepth 100000 in
theorem zCD135 : Cond.code yX10_soundOf cX10_soundOf 4 (some .int) ∈ zTB := zinT_rfl (q := 1076) rfl rfl
set_option maxRecDepth 100000 in
theorem zCD136 : Cond.code yX10_isAt cX10_isAt 3 (some .boolean) ∈ zTB := zinT_rfl (q := 1084) rfl rfl
set_option maxRecDepth 100000 in
theorem zCD137 : Cond.code yX10_across cX10_across 3 (some .int) ∈ zTB := zinT_rfl (q := 1092) rfl rfl
set_option maxRecDepth 100000 in
theorem zCD138 : Cond.code yX10_isString cX10_isString 2 (some .boolean) ∈ zTB := zinT_rfl (q := 1138) rfl rfl
set_option maxRecDepth 100000 in
theorem zCD139 : Cond.code yX10_bitsOf cX10_bitsOf 3 (some .int) ∈ zTB := zinT_rfl (q := 1103) rfl rfl
set_option maxRecDepth 100000 in
theorem zCD140 : Cond.code yX10_allOf cX10_allOf 1 (some .int) ∈ zTB := zinT_rfl (q := 1114) rfl rfl
set_option maxRecDepth 100000 in
theorem zCD141 : Cond.code yX10_fence cX10_fence 3 (some .int) ∈ zTB := zinT_rfl (q := 1044) rfl rfl
set_option maxRecDepth 100000 in
theorem zCD142 : Cond.code yX10_kind cX10_kind 3 (some .int) ∈ zTB := zinT_rfl (q := 1055) rfl rfl
set_option maxRecDepth 100000 in
theorem zCD143 : Cond.code yX10_beast cX10_beast 3 (some .int) ∈ zTB := zinT_rfl (q := 1064) rfl rfl
set_option maxRecDepth 100000 in
theorem zCD144 : Cond.code yX10_sound cX10_sound 3 (some .int) ∈ zTB := zinT_rfl (q := 1072) rfl rfl
set_option maxRecDepth 100000 in
theorem zCD145 : Cond.code yX10_know cX10_know 2 none ∈ zTB := zinT_rfl (q := 1088) rfl rfl
set_option maxRecDepth 100000 in
theorem zCD146 : Cond.code yX10_sing cX10_sing 3 none ∈ zTB := zinT_rfl (q := 1096) rfl rfl
set_option maxRecDepth 100000 in
theorem zCD147 : Cond.code yX10_goes cX10_goes 4 (some .int) ∈ zTB := zinT_rfl (q := 1080) rfl rfl
set_option maxRecDepth 100000 in
theorem zCD148 : Cond.code yX10_cuts cX10_cuts 3 (some .int) ∈ zTB := zinT_rfl (q := 1100) rfl rfl
set_option maxRecDepth 100000 in
theorem zCD149 : Cond.code yX10_tunes cX10_tunes 4 (some .int) ∈ zTB := zinT_rfl (q := 1107) rfl rfl
set_option maxRecDepth 100000 in
theorem zCD150 : Cond.code yX10_lays cX10_lays 3 (some .int) ∈ zTB := zinT_rfl (q := 1111) rfl rfl
set_option maxRecDepth 100000 in
theorem zCD151 : Cond.code yX10_rains cX10_rains 2 (some .int) ∈ zTB := zinT_rfl (q := 1118) rfl rfl
set_option maxRecDepth 100000 in
theorem zCD152 : Cond.code yX10_undo cX10_undo 2 (some .int) ∈ zTB := zinT_rfl (q := 1122) rfl rfl
set_option maxRecDepth 100000 in
theorem zCD153 : Cond.code yX10_areAlike cX10_areAlike 4 (some .boolean) ∈ zTB := zinT_rfl (q := 1134) rfl rfl
set_option maxRecDepth 100000 in
theorem zCD154 : Cond.code yX10_alike cX10_alike 4 (some .int) ∈ zTB := zinT_rfl (q := 1130) rfl rfl
set_option maxRecDepth 100000 in
theorem zCD155 : Cond.code yX10_areApart cX10_areApart 5 (some .boolean) ∈ zTB := zinT_rfl (q := 1146) rfl rfl
set_option maxRecDepth 100000 in
theorem zCD156 : Cond.code yX10_areHeard cX10_areHeard 4 (some .boolean) ∈ zTB := zinT_rfl (q := 1150) rfl rfl
set_option maxRecDepth 100000 in
theorem zCD157 : Cond.code yX10_fewest cX10_fewest 6 (some .int) ∈ zTB := zinT_rfl (q := 1142) rfl rfl
set_option maxRecDepth 100000 in
theorem zCD158 : Cond.code yX10_now cX10_now 2 (some .int) ∈ zTB := zinT_rfl (q := 1126) rfl rfl
set_option maxRecDepth 100000 in
theorem zCD159 : Cond.code yX10_song cX10_song 2 (some .int) ∈ zTB := zinT_rfl (q := 1154) rfl rfl
set_option maxRecDepth 100000 in
theorem zCD160 : Cond.code yX10_who cX10_who 6 (some .int) ∈ zTB := zinT_rfl (q := 1158) rfl rfl
set_option maxRecDepth 100000 in
theorem zCD161 : Cond.code yX10_hears cX10_hears 2 (some .int) ∈ zTB := zinT_rfl (q := 1162) rfl rfl
set_option maxRecDepth 100000 in
theorem zCD162 : Cond.code yX10_forget cX10_forget 2 (some .int) ∈ zTB := zinT_rfl (q := 1166) rfl rfl
set_option maxRecDepth 100000 in
theorem zCD163 : Cond.code yX10_ways cX10_ways 5 (some .int) ∈ zTB := zinT_rfl (q := 1170) rfl rfl
set_option maxRecDepth 100000 in
theorem zCD164 : Cond.code yX10_endsOf cX10_endsOf 6 (some .int) ∈ zTB := zinT_rfl (q := 1183) rfl rfl
set_option maxRecDepth 100000 in
theorem zCD165 : Cond.code yX10_ends cX10_ends 2 (some .int) ∈ zTB := zinT_rfl (q := 1179) rfl rfl
set_option maxRecDepth 100000 in
theorem zCD166 : Cond.code yX10_can cX10_can 3 (some .int) ∈ zTB := zinT_rfl (q := 1187) rfl rfl
set_option maxRecDepth 100000 in
theorem zCD167 : Cond.code yX10_comesTo cX10_comesTo 4 (some .boolean) ∈ zTB := zinT_rfl (q := 1195) rfl rfl
set_option maxRecDepth 100000 in
theorem zCD168 : Cond.code yX10_ask cX10_ask 8 (some .int) ∈ zTB := zinT_rfl (q := 1191) rfl rfl
set_option maxRecDepth 100000 in
theorem zCD169 : Cond.code yX10_costOf cX10_costOf 3 (some .int) ∈ zTB := zinT_rfl (q := 1208) rfl rfl
set_option maxRecDepth 100000 in
theorem zCD170 : Cond.code yX10_measure cX10_measure 7 none ∈ zTB := zinT_rfl (q := 1203) rfl rfl
set_option maxRecDepth 100000 in
theorem zCD171 : Cond.code yX10_quiet cX10_quiet 8 (some .int) ∈ zTB := zinT_rfl (q := 1199) rfl rfl
set_option maxRecDepth 100000 in
theorem zCD172 : Cond.code yX10_fifthsOf cX10_fifthsOf 7 (some .int) ∈ zTB := zinT_rfl (q := 1216) rfl rfl
set_option maxRecDepth 100000 in
theorem zCD173 : Cond.code yX10_fifths cX10_fifths 2 (some .int) ∈ zTB := zinT_rfl (q := 1212) rfl rfl
set_option maxRecDepth 100000 in
theorem zCD174 : Cond.code yX10_milkBy cX10_milkBy 5 (some .int) ∈ zTB := zinT_rfl (q := 1224) rfl rfl
set_option maxRecDepth 100000 in
theorem zCD175 : Cond.code yX10_herd cX10_herd 7 (some .int) ∈ zTB := zinT_rfl (q := 1220) rfl rfl
set_option maxRecDepth 100000 in
theorem zCD176 : Cond.code yX10_isUnheard cX10_isUnheard 10 (some .boolean) ∈ zTB := zinT_rfl (q := 1232) rfl rfl
set_option maxRecDepth 100000 in
theorem zCD177 : Cond.code yX10_frost cX10_frost 13 (some .int) ∈ zTB := zinT_rfl (q := 1228) rfl rfl
set_option maxRecDepth 100000 in
theorem zCD178 : Cond.code yX10_bodiesOf cX10_bodiesOf 1 (some .int) ∈ zTB := zinT_rfl (q := 1239) rfl rfl
set_option maxRecDepth 100000 in
theorem zCD179 : Cond.code yX10_mark cX10_mark 7 (some .int) ∈ zTB := zinT_rfl (q := 1236) rfl rfl
set_option maxRecDepth 100000 in
theorem zCD180 : Cond.code yX10_trace cX10_trace 1 (some .long) ∈ zTB := zinT_rfl (q := 1244) rfl rfl
set_option maxRecDepth 100000 in
theorem zCD181 : Cond.code yX10_keep cX10_keep 3 (some .int) ∈ zTB := zinT_rfl (q := 1248) rfl rfl
set_option maxRecDepth 100000 in
theorem zCD182 : Cond.code yX10_back cX10_back 3 (some .int) ∈ zTB := zinT_rfl (q := 1252) rfl rfl
set_option maxRecDepth 100000 in
theorem zCD183 : Cond.code yX10_count cX10_count 2 (some .int) ∈ zTB := zinT_rfl (q := 1256) rfl rfl
set_option maxRecDepth 100000 in
theorem zCD184 : Cond.code yJ6_bitCount_0f7a4 cJ6_bitCount_0f7a4 1 (some .int) ∈ zTB := zinT_rfl (q := 584) rfl rfl
def zCDP (N : zMe) : Prop := Cond.code N.1 N.2.1 N.2.2.1 N.2.2.2.1 ∈ zTB
theorem zCDc0 : ∀ N ∈ zMT.take 31 |>.drop 0, zCDP N := by
  show ∀ N ∈ ([(yX0_init, cX0_init, 2, none, 0, 1, 21), (yX0_alike, cX0_alike, 3, (some .int), 0, 3, 65), (yX0_fewestTuned, cX0_fewestTuned, 1, (some .int), 0, 3, 65), (yX0_fewestEars, cX0_fewestEars, 2, (some .int), 0, 2, 46), (yX0_partnerAlikes, cX0_partnerAlikes, 3, none, 0, 2, 43), (yX0_areAlike, cX0_areAlike, 3, (some .boolean), 0, 1, 21), (yX0_fewestOfEachTwo, cX0_fewestOfEachTwo, 4, (some .int), 0, 1, 23), (yX0_hasOneOfEachTwo, cX0_hasOneOfEachTwo, 4, (some .boolean), 0, 0, 0), (yX0_mostMilk, cX0_mostMilk, 1, (some .int), 0, 4, 91), (yX0_fieldInHerd, cX0_fieldInHerd, 5, (some .int), 0, 4, 91), (yX0_bestField, cX0_bestField, 4, (some .int), 0, 1, 23), (yX0_measureHerds, cX0_measureHerds, 4, none, 0, 3, 68), (yX0_milkWith, cX0_milkWith, 4, (some .int), 0, 0, 0), (yX1_init, cX1_init, 3, none, 1, 1, 20), (yX1_isString, cX1_isString, 2, (some .boolean), 1, 0, 0), (yX1_soundTo, cX1_soundTo, 3, (some .int), 1, 1, 21), (yX1_fifthsAt, cX1_fifthsAt, 5, (some .int), 1, 2, 44), (yX1_isStringAt, cX1_isStringAt, 3, (some .boolean), 1, 1, 22), (yX1_beastsThatSound, cX1_beastsThatSound, 5, (some .int), 1, 2, 43), (yX2_init, cX2_init, 2, none, 2, 1, 20), (yX2_takes, cX2_takes, 2, (some .boolean), 2, 0, 0), (yX2_rowsFrom, cX2_rowsFrom, 5, (some .int), 2, 3, 68), (yX2_crossAll, cX2_crossAll, 6, none, 2, 2, 43), (yX2_endsOf, cX2_endsOf, 4, (some .int), 2, 3, 68), (yX2_endsBehind, cX2_endsBehind, 6, (some .int), 2, 2, 43), (yX2_kindsThatCan, cX2_kindsThatCan, 3, (some .int), 2, 4, 91), (yX2_fenceToWatch, cX2_fenceToWatch, 5, (some .int), 2, 4, 91), (yX2_greatestCrowd, cX2_greatestCrowd, 6, (some .int), 2, 2, 43), (yX2_comesTo, cX2_comesTo, 3, (some .boolean), 2, 1, 21), (yX3_init, cX3_init, 1, none, 3, 3, 61), (yX3_take, cX3_take, 3, none, 3, 3, 69)] : List zMe), zCDP N
  exact List.forall_mem_cons.mpr ⟨zCD0,  List.forall_mem_cons.mpr ⟨zCD1,  List.forall_mem_cons.mpr ⟨zCD2,  List.forall_mem_cons.mpr ⟨zCD3,  List.forall_mem_cons.mpr ⟨zCD4,  List.forall_mem_cons.mpr ⟨zCD5,  List.forall_mem_cons.mpr ⟨zCD6,  List.forall_mem_cons.mpr ⟨zCD7,  List.forall_mem_cons.mpr ⟨zCD8,  List.forall_mem_cons.mpr ⟨zCD9,  List.forall_mem_cons.mpr ⟨zCD10,  List.forall_mem_cons.mpr ⟨zCD11,  List.forall_mem_cons.mpr ⟨zCD12,  List.forall_mem_cons.mpr ⟨zCD13,  List.forall_mem_cons.mpr ⟨zCD14,  List.forall_mem_cons.mpr ⟨zCD15,  List.forall_mem_cons.mpr ⟨zCD16,  List.forall_mem_cons.mpr ⟨zCD17,  List.forall_mem_cons.mpr ⟨zCD18,  List.forall_mem_cons.mpr ⟨zCD19,  List.forall_mem_cons.mpr ⟨zCD20,  List.forall_mem_cons.mpr ⟨zCD21,  List.forall_mem_cons.mpr ⟨zCD22,  List.forall_mem_cons.mpr ⟨zCD23,  List.forall_mem_cons.mpr ⟨zCD24,  List.forall_mem_cons.mpr ⟨zCD25,  List.forall_mem_cons.mpr ⟨zCD26,  List.forall_mem_cons.mpr ⟨zCD27,  List.forall_mem_cons.mpr ⟨zCD28,  List.forall_mem_cons.mpr ⟨zCD29,  List.forall_mem_cons.mpr ⟨zCD30, fun _ h => absurd h List.not_mem_nil⟩⟩⟩⟩⟩⟩⟩⟩⟩⟩⟩⟩⟩⟩⟩⟩⟩⟩⟩⟩⟩⟩⟩⟩⟩⟩⟩⟩⟩⟩⟩
theorem zCDc31 : ∀ N ∈ zMT.take 62 |>.drop 31, zCDP N := by
  show ∀ N ∈ ([(yX3_give, cX3_give, 3, none, 3, 3, 69), (yX4_init, cX4_init, 1, none, 4, 1, 20), (yX4_begin, cX4_begin, 1, none, 4, 0, 0), (yX4_copyFrom, cX4_copyFrom, 2, none, 4, 1, 26), (yX4_isAt, cX4_isAt, 3, (some .boolean), 4, 0, 0), (yX4_across, cX4_across, 3, (some .int), 4, 0, 0), (yX4_endBits, cX4_endBits, 2, (some .int), 4, 0, 0), (yX5_init, cX5_init, 2, none, 5, 2, 40), (yX5_note, cX5_note, 2, none, 5, 2, 47), (yX5_restore, cX5_restore, 2, none, 5, 2, 47), (yX5_copyFrom, cX5_copyFrom, 3, none, 5, 2, 47), (yX6_init, cX6_init, 2, none, 6, 1, 20), (yX6_fewestHeard, cX6_fewestHeard, 4, (some .int), 6, 4, 92), (yX6_fewestCrossings, cX6_fewestCrossings, 4, (some .int), 6, 4, 92), (yX6_firstFence, cX6_firstFence, 5, (some .int), 6, 4, 92), (yX6_costOf, cX6_costOf, 3, (some .int), 6, 2, 43), (yX6_measure, cX6_measure, 8, none, 6, 3, 65), (yX6_frostParts, cX6_frostParts, 4, (some .int), 6, 2, 43), (yX6_frostUnheard, cX6_frostUnheard, 8, (some .int), 6, 2, 47), (yX6_snappedFences, cX6_snappedFences, 4, (some .int), 6, 0, 0), (yX6_reaches, cX6_reaches, 7, (some .boolean), 6, 1, 21), (yX6_power, cX6_power, 4, (some .int), 6, 0, 0), (yX6_commonDivisor, cX6_commonDivisor, 6, (some .int), 6, 0, 0), (yX7_init, cX7_init, 1, none, 7, 1, 20), (yX7_begin, cX7_begin, 2, none, 7, 1, 26), (yX7_copyFrom, cX7_copyFrom, 2, none, 7, 1, 26), (yX7_sing, cX7_sing, 2, none, 7, 1, 26), (yX8_init, cX8_init, 1, none, 8, 1, 20), (yX8_takes, cX8_takes, 2, (some .boolean), 8, 0, 0), (yX8_tell, cX8_tell, 4, (some .int), 8, 5, 106), (yX8_tellsFields, cX8_tellsFields, 2, (some .boolean), 8, 4, 84)] : List zMe), zCDP N
  exact List.forall_mem_cons.mpr ⟨zCD31,  List.forall_mem_cons.mpr ⟨zCD32,  List.forall_mem_cons.mpr ⟨zCD33,  List.forall_mem_cons.mpr ⟨zCD34,  List.forall_mem_cons.mpr ⟨zCD35,  List.forall_mem_cons.mpr ⟨zCD36,  List.forall_mem_cons.mpr ⟨zCD37,  List.forall_mem_cons.mpr ⟨zCD38,  List.forall_mem_cons.mpr ⟨zCD39,  List.forall_mem_cons.mpr ⟨zCD40,  List.forall_mem_cons.mpr ⟨zCD41,  List.forall_mem_cons.mpr ⟨zCD42,  List.forall_mem_cons.mpr ⟨zCD43,  List.forall_mem_cons.mpr ⟨zCD44,  List.forall_mem_cons.mpr ⟨zCD45,  List.forall_mem_cons.mpr ⟨zCD46,  List.forall_mem_cons.mpr ⟨zCD47,  List.forall_mem_cons.mpr ⟨zCD48,  List.forall_mem_cons.mpr ⟨zCD49,  List.forall_mem_cons.mpr ⟨zCD50,  List.forall_mem_cons.mpr ⟨zCD51,  List.forall_mem_cons.mpr ⟨zCD52,  List.forall_mem_cons.mpr ⟨zCD53,  List.forall_mem_cons.mpr ⟨zCD54,  List.forall_mem_cons.mpr ⟨zCD55,  List.forall_mem_cons.mpr ⟨zCD56,  List.forall_mem_cons.mpr ⟨zCD57,  List.forall_mem_cons.mpr ⟨zCD58,  List.forall_mem_cons.mpr ⟨zCD59,  List.forall_mem_cons.mpr ⟨zCD60,  List.forall_mem_cons.mpr ⟨zCD61, fun _ h => absurd h List.not_mem_nil⟩⟩⟩⟩⟩⟩⟩⟩⟩⟩⟩⟩⟩⟩⟩⟩⟩⟩⟩⟩⟩⟩⟩⟩⟩⟩⟩⟩⟩⟩⟩
theorem zCDc62 : ∀ N ∈ zMT.take 93 |>.drop 62, zCDP N := by
  show ∀ N ∈ ([(yX8_tellsFence, cX8_tellsFence, 3, (some .boolean), 8, 4, 84), (yX8_tellsKind, cX8_tellsKind, 3, (some .boolean), 8, 4, 84), (yX8_tellsBeast, cX8_tellsBeast, 3, (some .boolean), 8, 4, 84), (yX8_tellsWet, cX8_tellsWet, 2, (some .boolean), 8, 4, 84), (yX8_number, cX8_number, 3, (some .boolean), 8, 3, 62), (yX8_stops, cX8_stops, 1, (some .boolean), 8, 3, 62), (yX8_step, cX8_step, 1, none, 8, 2, 42), (yX8_stepLetters, cX8_stepLetters, 1, none, 8, 1, 20), (yX8_stepNumber, cX8_stepNumber, 2, none, 8, 1, 21), (yX8_isLetter, cX8_isLetter, 1, (some .boolean), 8, 0, 0), (yX8_isDigit, cX8_isDigit, 1, (some .boolean), 8, 0, 0), (yX9_init, cX9_init, 2, none, 9, 4, 81), (yX9_type, cX9_type, 2, (some .int), 9, 1, 21), (yX9_clear, cX9_clear, 2, (some .int), 9, 0, 0), (yX9_downs, cX9_downs, 2, (some .int), 9, 6, 129), (yX9_fence, cX9_fence, 3, (some .int), 9, 1, 21), (yX9_kind, cX9_kind, 3, (some .int), 9, 1, 21), (yX9_beast, cX9_beast, 3, (some .int), 9, 1, 21), (yX9_sound, cX9_sound, 3, (some .int), 9, 2, 43), (yX9_goes, cX9_goes, 5, (some .int), 9, 3, 68), (yX9_cuts, cX9_cuts, 3, (some .int), 9, 3, 68), (yX9_tunes, cX9_tunes, 4, (some .int), 9, 3, 68), (yX9_lays, cX9_lays, 3, (some .int), 9, 3, 68), (yX9_rains, cX9_rains, 3, (some .int), 9, 3, 68), (yX9_undo, cX9_undo, 1, (some .int), 9, 3, 68), (yX9_now, cX9_now, 2, (some .int), 9, 4, 87), (yX9_song, cX9_song, 2, (some .int), 9, 0, 0), (yX9_who, cX9_who, 2, (some .int), 9, 3, 67), (yX9_hears, cX9_hears, 2, (some .int), 9, 1, 21), (yX9_forget, cX9_forget, 2, (some .int), 9, 0, 0), (yX9_ways, cX9_ways, 3, (some .int), 9, 4, 92)] : List zMe), zCDP N
  exact List.forall_mem_cons.mpr ⟨zCD62,  List.forall_mem_cons.mpr ⟨zCD63,  List.forall_mem_cons.mpr ⟨zCD64,  List.forall_mem_cons.mpr ⟨zCD65,  List.forall_mem_cons.mpr ⟨zCD66,  List.forall_mem_cons.mpr ⟨zCD67,  List.forall_mem_cons.mpr ⟨zCD68,  List.forall_mem_cons.mpr ⟨zCD69,  List.forall_mem_cons.mpr ⟨zCD70,  List.forall_mem_cons.mpr ⟨zCD71,  List.forall_mem_cons.mpr ⟨zCD72,  List.forall_mem_cons.mpr ⟨zCD73,  List.forall_mem_cons.mpr ⟨zCD74,  List.forall_mem_cons.mpr ⟨zCD75,  List.forall_mem_cons.mpr ⟨zCD76,  List.forall_mem_cons.mpr ⟨zCD77,  List.forall_mem_cons.mpr ⟨zCD78,  List.forall_mem_cons.mpr ⟨zCD79,  List.forall_mem_cons.mpr ⟨zCD80,  List.forall_mem_cons.mpr ⟨zCD81,  List.forall_mem_cons.mpr ⟨zCD82,  List.forall_mem_cons.mpr ⟨zCD83,  List.forall_mem_cons.mpr ⟨zCD84,  List.forall_mem_cons.mpr ⟨zCD85,  List.forall_mem_cons.mpr ⟨zCD86,  List.forall_mem_cons.mpr ⟨zCD87,  List.forall_mem_cons.mpr ⟨zCD88,  List.forall_mem_cons.mpr ⟨zCD89,  List.forall_mem_cons.mpr ⟨zCD90,  List.forall_mem_cons.mpr ⟨zCD91,  List.forall_mem_cons.mpr ⟨zCD92, fun _ h => absurd h List.not_mem_nil⟩⟩⟩⟩⟩⟩⟩⟩⟩⟩⟩⟩⟩⟩⟩⟩⟩⟩⟩⟩⟩⟩⟩⟩⟩⟩⟩⟩⟩⟩⟩
theorem zCDc93 : ∀ N ∈ zMT.take 124 |>.drop 93, zCDP N := by
  show ∀ N ∈ ([(yX9_ends, cX9_ends, 2, (some .int), 9, 4, 91), (yX9_can, cX9_can, 1, (some .int), 9, 5, 113), (yX9_ask, cX9_ask, 1, (some .int), 9, 5, 115), (yX9_quiet, cX9_quiet, 5, (some .int), 9, 5, 116), (yX9_fifths, cX9_fifths, 2, (some .int), 9, 3, 68), (yX9_herd, cX9_herd, 2, (some .int), 9, 5, 115), (yX9_frost, cX9_frost, 10, (some .int), 9, 3, 74), (yX9_mark, cX9_mark, 3, (some .int), 9, 5, 110), (yX9_keep, cX9_keep, 2, (some .int), 9, 4, 91), (yX9_back, cX9_back, 2, (some .int), 9, 4, 91), (yX9_count, cX9_count, 2, (some .int), 9, 0, 0), (yX9_trace, cX9_trace, 1, (some .long), 9, 0, 0), (yX9_beginAnew, cX9_beginAnew, 2, none, 9, 2, 47), (yX9_isField, cX9_isField, 2, (some .boolean), 9, 0, 0), (yX9_isFence, cX9_isFence, 2, (some .boolean), 9, 0, 0), (yX9_isKind, cX9_isKind, 2, (some .boolean), 9, 0, 0), (yX9_isBeast, cX9_isBeast, 2, (some .boolean), 9, 0, 0), (yX9_isImage, cX9_isImage, 1, (some .boolean), 9, 0, 0), (yX9_isFlag, cX9_isFlag, 1, (some .boolean), 9, 0, 0), (yX9_markString, cX9_markString, 2, (some .int), 9, 0, 0), (yX9_markBass, cX9_markBass, 2, (some .int), 9, 1, 21), (yX9_markTreble, cX9_markTreble, 2, (some .int), 9, 3, 68), (yX9_markBull, cX9_markBull, 2, (some .int), 9, 2, 42), (yX9_markLark, cX9_markLark, 2, (some .int), 9, 4, 89), (yX9_markPedal, cX9_markPedal, 2, (some .int), 9, 1, 21), (yX10_init, cX10_init, 1, none, 10, 1, 20), (yX10_in, cX10_in, 3, (some .boolean), 10, 0, 0), (yX10_has, cX10_has, 2, (some .boolean), 10, 0, 0), (yX10_type, cX10_type, 2, (some .int), 10, 1, 22), (yX10_clear, cX10_clear, 2, (some .int), 10, 0, 0), (yX10_here, cX10_here, 1, (some .int), 10, 0, 0)] : List zMe), zCDP N
  exact List.forall_mem_cons.mpr ⟨zCD93,  List.forall_mem_cons.mpr ⟨zCD94,  List.forall_mem_cons.mpr ⟨zCD95,  List.forall_mem_cons.mpr ⟨zCD96,  List.forall_mem_cons.mpr ⟨zCD97,  List.forall_mem_cons.mpr ⟨zCD98,  List.forall_mem_cons.mpr ⟨zCD99,  List.forall_mem_cons.mpr ⟨zCD100,  List.forall_mem_cons.mpr ⟨zCD101,  List.forall_mem_cons.mpr ⟨zCD102,  List.forall_mem_cons.mpr ⟨zCD103,  List.forall_mem_cons.mpr ⟨zCD104,  List.forall_mem_cons.mpr ⟨zCD105,  List.forall_mem_cons.mpr ⟨zCD106,  List.forall_mem_cons.mpr ⟨zCD107,  List.forall_mem_cons.mpr ⟨zCD108,  List.forall_mem_cons.mpr ⟨zCD109,  List.forall_mem_cons.mpr ⟨zCD110,  List.forall_mem_cons.mpr ⟨zCD111,  List.forall_mem_cons.mpr ⟨zCD112,  List.forall_mem_cons.mpr ⟨zCD113,  List.forall_mem_cons.mpr ⟨zCD114,  List.forall_mem_cons.mpr ⟨zCD115,  List.forall_mem_cons.mpr ⟨zCD116,  List.forall_mem_cons.mpr ⟨zCD117,  List.forall_mem_cons.mpr ⟨zCD118,  List.forall_mem_cons.mpr ⟨zCD119,  List.forall_mem_cons.mpr ⟨zCD120,  List.forall_mem_cons.mpr ⟨zCD121,  List.forall_mem_cons.mpr ⟨zCD122,  List.forall_mem_cons.mpr ⟨zCD123, fun _ h => absurd h List.not_mem_nil⟩⟩⟩⟩⟩⟩⟩⟩⟩⟩⟩⟩⟩⟩⟩⟩⟩⟩⟩⟩⟩⟩⟩⟩⟩⟩⟩⟩⟩⟩⟩
theorem zCDc124 : ∀ N ∈ zMT.take 155 |>.drop 124, zCDP N := by
  show ∀ N ∈ ([(yX10_step, cX10_step, 2, none, 10, 1, 22), (yX10_due, cX10_due, 2, none, 10, 2, 43), (yX10_number, cX10_number, 4, (some .int), 10, 3, 64), (yX10_item, cX10_item, 4, none, 10, 4, 87), (yX10_may, cX10_may, 3, (some .boolean), 10, 0, 0), (yX10_read, cX10_read, 3, none, 10, 5, 110), (yX10_downs, cX10_downs, 2, (some .int), 10, 6, 132), (yX10_isField, cX10_isField, 2, (some .boolean), 10, 1, 22), (yX10_isFence, cX10_isFence, 2, (some .boolean), 10, 1, 22), (yX10_isKind, cX10_isKind, 2, (some .boolean), 10, 1, 22), (yX10_isBeast, cX10_isBeast, 2, (some .boolean), 10, 1, 22), (yX10_soundOf, cX10_soundOf, 4, (some .int), 10, 1, 21), (yX10_isAt, cX10_isAt, 3, (some .boolean), 10, 0, 0), (yX10_across, cX10_across, 3, (some .int), 10, 0, 0), (yX10_isString, cX10_isString, 2, (some .boolean), 10, 1, 21), (yX10_bitsOf, cX10_bitsOf, 3, (some .int), 10, 0, 0), (yX10_allOf, cX10_allOf, 1, (some .int), 10, 0, 0), (yX10_fence, cX10_fence, 3, (some .int), 10, 2, 43), (yX10_kind, cX10_kind, 3, (some .int), 10, 2, 43), (yX10_beast, cX10_beast, 3, (some .int), 10, 2, 43), (yX10_sound, cX10_sound, 3, (some .int), 10, 2, 44), (yX10_know, cX10_know, 2, none, 10, 0, 0), (yX10_sing, cX10_sing, 3, none, 10, 0, 0), (yX10_goes, cX10_goes, 4, (some .int), 10, 2, 44), (yX10_cuts, cX10_cuts, 3, (some .int), 10, 2, 43), (yX10_tunes, cX10_tunes, 4, (some .int), 10, 2, 43), (yX10_lays, cX10_lays, 3, (some .int), 10, 1, 22), (yX10_rains, cX10_rains, 2, (some .int), 10, 1, 22), (yX10_undo, cX10_undo, 2, (some .int), 10, 0, 0), (yX10_areAlike, cX10_areAlike, 4, (some .boolean), 10, 2, 42), (yX10_alike, cX10_alike, 4, (some .int), 10, 3, 65)] : List zMe), zCDP N
  exact List.forall_mem_cons.mpr ⟨zCD124,  List.forall_mem_cons.mpr ⟨zCD125,  List.forall_mem_cons.mpr ⟨zCD126,  List.forall_mem_cons.mpr ⟨zCD127,  List.forall_mem_cons.mpr ⟨zCD128,  List.forall_mem_cons.mpr ⟨zCD129,  List.forall_mem_cons.mpr ⟨zCD130,  List.forall_mem_cons.mpr ⟨zCD131,  List.forall_mem_cons.mpr ⟨zCD132,  List.forall_mem_cons.mpr ⟨zCD133,  List.forall_mem_cons.mpr ⟨zCD134,  List.forall_mem_cons.mpr ⟨zCD135,  List.forall_mem_cons.mpr ⟨zCD136,  List.forall_mem_cons.mpr ⟨zCD137,  List.forall_mem_cons.mpr ⟨zCD138,  List.forall_mem_cons.mpr ⟨zCD139,  List.forall_mem_cons.mpr ⟨zCD140,  List.forall_mem_cons.mpr ⟨zCD141,  List.forall_mem_cons.mpr ⟨zCD142,  List.forall_mem_cons.mpr ⟨zCD143,  List.forall_mem_cons.mpr ⟨zCD144,  List.forall_mem_cons.mpr ⟨zCD145,  List.forall_mem_cons.mpr ⟨zCD146,  List.forall_mem_cons.mpr ⟨zCD147,  List.forall_mem_cons.mpr ⟨zCD148,  List.forall_mem_cons.mpr ⟨zCD149,  List.forall_mem_cons.mpr ⟨zCD150,  List.forall_mem_cons.mpr ⟨zCD151,  List.forall_mem_cons.mpr ⟨zCD152,  List.forall_mem_cons.mpr ⟨zCD153,  List.forall_mem_cons.mpr ⟨zCD154, fun _ h => absurd h List.not_mem_nil⟩⟩⟩⟩⟩⟩⟩⟩⟩⟩⟩⟩⟩⟩⟩⟩⟩⟩⟩⟩⟩⟩⟩⟩⟩⟩⟩⟩⟩⟩⟩
theorem zCDc155 : ∀ N ∈ zMT.take 185 |>.drop 155, zCDP N := by
  show ∀ N ∈ ([(yX10_areApart, cX10_areApart, 5, (some .boolean), 10, 3, 65), (yX10_areHeard, cX10_areHeard, 4, (some .boolean), 10, 2, 42), (yX10_fewest, cX10_fewest, 6, (some .int), 10, 4, 89), (yX10_now, cX10_now, 2, (some .int), 10, 5, 114), (yX10_song, cX10_song, 2, (some .int), 10, 1, 22), (yX10_who, cX10_who, 6, (some .int), 10, 2, 44), (yX10_hears, cX10_hears, 2, (some .int), 10, 1, 22), (yX10_forget, cX10_forget, 2, (some .int), 10, 0, 0), (yX10_ways, cX10_ways, 5, (some .int), 10, 2, 44), (yX10_endsOf, cX10_endsOf, 6, (some .int), 10, 2, 44), (yX10_ends, cX10_ends, 2, (some .int), 10, 3, 69), (yX10_can, cX10_can, 3, (some .int), 10, 3, 69), (yX10_comesTo, cX10_comesTo, 4, (some .boolean), 10, 3, 69), (yX10_ask, cX10_ask, 8, (some .int), 10, 4, 92), (yX10_costOf, cX10_costOf, 3, (some .int), 10, 2, 44), (yX10_measure, cX10_measure, 7, none, 10, 3, 66), (yX10_quiet, cX10_quiet, 8, (some .int), 10, 4, 92), (yX10_fifthsOf, cX10_fifthsOf, 7, (some .int), 10, 2, 42), (yX10_fifths, cX10_fifths, 2, (some .int), 10, 3, 68), (yX10_milkBy, cX10_milkBy, 5, (some .int), 10, 3, 68), (yX10_herd, cX10_herd, 7, (some .int), 10, 4, 92), (yX10_isUnheard, cX10_isUnheard, 10, (some .boolean), 10, 2, 44), (yX10_frost, cX10_frost, 13, (some .int), 10, 3, 73), (yX10_bodiesOf, cX10_bodiesOf, 1, (some .int), 10, 0, 0), (yX10_mark, cX10_mark, 7, (some .int), 10, 3, 68), (yX10_trace, cX10_trace, 1, (some .long), 10, 0, 0), (yX10_keep, cX10_keep, 3, (some .int), 10, 1, 22), (yX10_back, cX10_back, 3, (some .int), 10, 1, 22), (yX10_count, cX10_count, 2, (some .int), 10, 0, 0), (yJ6_bitCount_0f7a4, cJ6_bitCount_0f7a4, 1, (some .int), 11, 0, 0)] : List zMe), zCDP N
  exact List.forall_mem_cons.mpr ⟨zCD155,  List.forall_mem_cons.mpr ⟨zCD156,  List.forall_mem_cons.mpr ⟨zCD157,  List.forall_mem_cons.mpr ⟨zCD158,  List.forall_mem_cons.mpr ⟨zCD159,  List.forall_mem_cons.mpr ⟨zCD160,  List.forall_mem_cons.mpr ⟨zCD161,  List.forall_mem_cons.mpr ⟨zCD162,  List.forall_mem_cons.mpr ⟨zCD163,  List.forall_mem_cons.mpr ⟨zCD164,  List.forall_mem_cons.mpr ⟨zCD165,  List.forall_mem_cons.mpr ⟨zCD166,  List.forall_mem_cons.mpr ⟨zCD167,  List.forall_mem_cons.mpr ⟨zCD168,  List.forall_mem_cons.mpr ⟨zCD169,  List.forall_mem_cons.mpr ⟨zCD170,  List.forall_mem_cons.mpr ⟨zCD171,  List.forall_mem_cons.mpr ⟨zCD172,  List.forall_mem_cons.mpr ⟨zCD173,  List.forall_mem_cons.mpr ⟨zCD174,  List.forall_mem_cons.mpr ⟨zCD175,  List.forall_mem_cons.mpr ⟨zCD176,  List.forall_mem_cons.mpr ⟨zCD177,  List.forall_mem_cons.mpr ⟨zCD178,  List.forall_mem_cons.mpr ⟨zCD179,  List.forall_mem_cons.mpr ⟨zCD180,  List.forall_mem_cons.mpr ⟨zCD181,  List.forall_mem_cons.mpr ⟨zCD182,  List.forall_mem_cons.mpr ⟨zCD183,  List.forall_mem_cons.mpr ⟨zCD184, fun _ h => absurd h List.not_mem_nil⟩⟩⟩⟩⟩⟩⟩⟩⟩⟩⟩⟩⟩⟩⟩⟩⟩⟩⟩⟩⟩⟩⟩⟩⟩⟩⟩⟩⟩⟩
theorem zCD_of {k : Nat} {N : zMe} (hk : k < 185) (h : zM k = some N) : Cond.code N.1 N.2.1 N.2.2.1 N.2.2.2.1 ∈ zTB := by
  by_cases h0 : k < 31
  · exact zCDc0 N (List.mem_of_getElem? (i := k - 0) (by rw [List.getElem?_drop, List.getElem?_take, show 0 + (k - 0) = k by omega, if_pos (by omega)]; exact h))
  by_cases h31 : k < 62
  · exact zCDc31 N (List.mem_of_getElem? (i := k - 31) (by rw [List.getElem?_drop, List.getElem?_take, show 31 + (k - 31) = k by omega, if_pos (by omega)]; exact h))
  by_cases h62 : k < 93
  · exact zCDc62 N (List.mem_of_getElem? (i := k - 62) (by rw [List.getElem?_drop, List.getElem?_take, show 62 + (k - 62) = k by omega, if_pos (by omega)]; exact h))
  by_cases h93 : k < 124
  · exact zCDc93 N (List.mem_of_getElem? (i := k - 93) (by rw [List.getElem?_drop, List.getElem?_take, show 93 + (k - 93) = k by omega, if_pos (by omega)]; exact h))
  by_cases h124 : k < 155
  · exact zCDc124 N (List.mem_of_getElem? (i := k - 124) (by rw [List.getElem?_drop, List.getElem?_take, show 124 + (k - 124) = k by omega, if_pos (by omega)]; exact h))
  by_cases h155 : k < 185
  · exact zCDc155 N (List.mem_of_getElem? (i := k - 155) (by rw [List.getElem?_drop, List.getElem?_take, show 155 + (k - 155) = k by omega, if_pos (by omega)]; exact h))
  exact absurd hk (by omega)
end
section
/-! the world of the interpreter's heap, and the soundness of a run -/
abbrev zG : Type := va_G × ClassId × ClassId × ClassId × ClassId × ClassId × Nat × Nat
abbrev zs (g : zG) : Nat := g.2.2.2.2.2.2.1
abbrev zb (g : zG) : Nat := g.2.2.2.2.2.2.2
def zA (g : zG) : Nat → Prop := fun q => zs g ≤ q
def zv (g : zG) : Value → Value
  | .ref a => .ref (zs g + a)
  | .retAddr _ => .ref (zb g)
  | v => v
def ztys (g : zG) : List (ClassId × FieldType) := [(g.2.1, .int), (g.2.2.1, .byte), (g.2.2.2.1, .boolean), (g.2.2.2.2.1, .object "HarpFences$Stand"), (g.2.2.2.2.2.1, .object "HarpFences$Image")]
def zfv (g : zG) (h : zHp) (c a j : Nat) : Value := match zcl (zTy c j) with
  | 1 => .long (h.2.2.2 a j)
  | 2 => va_rf ((h.2.2.1 a j).map (fun q => zs g + q))
  | _ => .int (h.2.1 a j)
def zqs (g : zG) (h : zHp) (a : Nat) : Nat → Option Nat := fun j => (h.2.2.1 a j).map (fun q => zs g + q)
def zE (g : zG) (h : zHp) (a : Nat) : va_E := match (zK a).1 with
  | 100 => .inl (g.2.1, (zK a).2, .inl (h.2.1 a))
  | 101 => .inl (g.2.2.1, (zK a).2, .inl (h.2.1 a))
  | 102 => .inl (g.2.2.2.1, (zK a).2, .inl (h.2.1 a))
  | 103 => .inl (g.2.2.2.2.1, (zK a).2, .inr (.inr (.inr (.inr (zqs g h a)))))
  | 104 => .inl (g.2.2.2.2.2.1, (zK a).2, .inr (.inr (.inr (.inr (zqs g h a)))))
  | c => .inr (c, (List.range (zK a).2).map (zfv g h c a))
def zW (g : zG) (h : zHp) : va_W := (List.range h.1).map (fun a => (zs g + a, zE g h a))
def zRep (g : zG) (h : zHp) (H : Heap) : Prop := H.size = zs g + h.1 ∧ va_P g.1 zCl (zW g h) H
theorem zKL_ok : zKL.all (fun e => match zCl[e.1]? with
  | some r => r.2.2 == e.2
  | none => true) = true := by decide +kernel
theorem zK_obj {a c : Nat} {r : vw_C} (h : (zK a).1 = c) (hr : zCl[c]? = some r) : r.2.2 = (zK a).2 := by
  have hc : c < 11 := (zCK_of hr).1
  unfold zK at h ⊢
  rw [List.getD_eq_getElem?_getD] at h ⊢
  cases hk : zKL[a]? with
  | none => rw [hk] at h; simp at h; omega
  | some e =>
    rw [hk] at h
    simp only [Option.getD_some] at h ⊢
    have h1 := List.all_eq_true.mp zKL_ok e (List.mem_of_getElem? hk)
    rw [h, hr] at h1
    simpa using h1
theorem zv_rf (g : zG) (r : Option Nat) : zv g (va_rf r) = va_rf (r.map (fun q => zs g + q)) := by cases r <;> rfl
theorem zv_cat (g : zG) (v : Value) : (zv g v).category = v.category := by cases v <;> rfl
theorem zcat_map (g : zG) (st : List Value) : ((st.map (zv g)).map fun v => v.category).sum = zcat st := by
  unfold zcat
  rw [List.map_map]
  congr 1
  apply List.map_congr_left
  intro v _
  exact zv_cat g v
theorem zW_get {g : zG} {h : zHp} {a : Nat} (ha : a < h.1) : (zW g h)[a]? = some (zs g + a, zE g h a) := by
  simp [zW, ha]
theorem zW_none {g : zG} {h : zHp} {a : Nat} (ha : ¬ a < h.1) : (zW g h)[a]? = none := by
  simp [zW]; omega
theorem zW_len {g : zG} {h : zHp} : (zW g h).length = h.1 := by simp [zW]
theorem zW_set {g : zG} {h h' : zHp} {a : Nat} (ha : a < h.1) (hn : h'.1 = h.1) (ho : ∀ q, q ≠ a → zE g h' q = zE g h q) : (zW g h).set a (zs g + a, zE g h' a) = zW g h' := by
  apply List.ext_getElem?
  intro q
  rw [List.getElem?_set]
  by_cases hq : a = q
  · subst hq
    rw [if_pos rfl, zW_len, if_pos ha, zW_get (by omega)]
  · rw [if_neg hq]
    by_cases hl : q < h.1
    · rw [zW_get hl, zW_get (by omega), ho q (Ne.symm hq)]
    · rw [zW_none hl, zW_none (by omega)]
theorem zW_push {g : zG} {h h' : zHp} (hn : h'.1 = h.1 + 1) (ho : ∀ q, q < h.1 → zE g h' q = zE g h q) : zW g h' = zW g h ++ [(zs g + h.1, zE g h' h.1)] := by
  unfold zW
  rw [hn, List.range_succ, List.map_append]
  congr 1
  apply List.map_congr_left
  intro q hq
  rw [ho q (List.mem_range.mp hq)]
theorem zD (g : zG) (h : zHp) : va_D (zA g) (zW g h) := by
  have key : ∀ (i : Nat) (q : Nat × va_E), (zW g h)[i]? = some q → q.1 = zs g + i := by
    intro i q hq
    by_cases hi : i < h.1
    · rw [zW_get hi] at hq
      cases hq
      rfl
    · rw [zW_none hi] at hq
      cases hq
  refine ⟨fun i j p q h1 h2 h3 => ?_, fun i q h1 => ?_⟩
  · have := key i p h1
    have := key j q h2
    omega
  · show zs g ≤ q.1
    rw [key i q h1]
    omega
theorem zE_congr {g : zG} {h h' : zHp} {a : Nat} (h1 : h'.2.1 a = h.2.1 a) (h2 : h'.2.2.1 a = h.2.2.1 a) (h3 : h'.2.2.2 a = h.2.2.2 a) : zE g h' a = zE g h a := by
  have e1 : zqs g h' a = zqs g h a := by unfold zqs; rw [h2]
  have e2 : ∀ c, zfv g h' c a = zfv g h c a := by intro c; funext j; unfold zfv; rw [h1, h2, h3]
  unfold zE
  rw [h1, e1]
  simp only [e2]
theorem zU_ne {α : Type} {f : Nat → Nat → α} {a j q : Nat} {v : α} (hq : q ≠ a) : zU f a j v q = f q := by
  funext t
  simp [zU, hq]
theorem zCr_ne {α : Type} {f : Nat → Nat → α} {a q : Nat} {v : α} (hq : q ≠ a) : zCr f a v q = f q := by
  funext t
  simp [zCr, hq]
theorem zCr_eq {α : Type} {f : Nat → Nat → α} {a : Nat} {v : α} : zCr f a v a = fun _ => v := by
  funext t
  simp [zCr]
theorem zCp_ne {f : Nat → Nat → Int32} {a0 a sp dp n q : Nat} (hq : q ≠ a) : zCp f a0 a sp dp n q = f q := by
  funext t
  simp [zCp, hq]
theorem zCp_eq {f : Nat → Nat → Int32} {a0 a sp dp n : Nat} : zCp f a0 a sp dp n a = va_cpy (f a0) (f a) sp dp n := by
  funext t
  simp [zCp]
theorem zU_upd {f : Nat → Nat → Int32} {a j : Nat} {v : Int32} : zU f a j v a = upd (f a) j v := by
  funext t
  simp [zU, upd]
theorem zset_obj {n j : Nat} {f f' : Nat → Value} {v : Value} (hj : f' j = v) (ho : ∀ t, t ≠ j → f' t = f t) : ((List.range n).map f).set j v = (List.range n).map f' := by
  apply List.ext_getElem?
  intro t
  rw [List.getElem?_set]
  by_cases hq : j = t
  · subst hq
    by_cases hl : j < n
    · simp [hl, hj]
    · simp [hl]
  · rw [if_neg hq]
    by_cases hl : t < n
    · simp [hl, ho t (Ne.symm hq)]
    · simp [hl]
theorem zok_iff {n a c : Nat} : zok n a c = true ↔ a < n ∧ (zK a).1 = c := by simp [zok]
theorem zE_obj {g : zG} {h : zHp} {a c : Nat} (hc : (zK a).1 = c) (h11 : c < 11) : zE g h a = .inr (c, (List.range (zK a).2).map (zfv g h c a)) := by
  unfold zE
  rw [hc]
  match c, h11 with
  | 0, _ => rfl
  | 1, _ => rfl
  | 2, _ => rfl
  | 3, _ => rfl
  | 4, _ => rfl
  | 5, _ => rfl
  | 6, _ => rfl
  | 7, _ => rfl
  | 8, _ => rfl
  | 9, _ => rfl
  | 10, _ => rfl
theorem zE_100 {g : zG} {h : zHp} {a : Nat} (hc : (zK a).1 = 100) : zE g h a = .inl (g.2.1, (zK a).2, .inl (h.2.1 a)) := by unfold zE; rw [hc]; rfl
theorem zE_101 {g : zG} {h : zHp} {a : Nat} (hc : (zK a).1 = 101) : zE g h a = .inl (g.2.2.1, (zK a).2, .inl (h.2.1 a)) := by unfold zE; rw [hc]; rfl
theorem zE_102 {g : zG} {h : zHp} {a : Nat} (hc : (zK a).1 = 102) : zE g h a = .inl (g.2.2.2.1, (zK a).2, .inl (h.2.1 a)) := by unfold zE; rw [hc]; rfl
theorem zE_103 {g : zG} {h : zHp} {a : Nat} (hc : (zK a).1 = 103) : zE g h a = .inl (g.2.2.2.2.1, (zK a).2, .inr (.inr (.inr (.inr (zqs g h a))))) := by unfold zE; rw [hc]; rfl
theorem zE_104 {g : zG} {h : zHp} {a : Nat} (hc : (zK a).1 = 104) : zE g h a = .inl (g.2.2.2.2.2.1, (zK a).2, .inr (.inr (.inr (.inr (zqs g h a))))) := by unfold zE; rw [hc]; rfl
def zSL (n : Nat) : Nat := ((zKL.take n).map (fun e => e.2)).sum
theorem zSL_succ (n : Nat) : zSL (n + 1) = zSL n + (zK n).2 := by
  unfold zSL zK
  rw [List.take_add_one, List.map_append, List.sum_append, List.getD_eq_getElem?_getD]
  cases zKL[n]? <;> simp
theorem zSL_mono {n m : Nat} (h : n ≤ m) : zSL n ≤ zSL m := by
  induction h with
  | refl => exact Nat.le_refl _
  | step _ ih => rw [zSL_succ]; omega
/-- the words on nest mates and on arrays of objects -/
def zNw (U : State) : Prop := (∀ w ∈ zNest, va_Nw w U) ∧ va_AO "HarpFences$Stand" U ∧ va_AO "HarpFences$Image" U
theorem zNw_warm {s U : State} (hW : s.WarmedH U.vm) (h : zNw s) : zNw U := by
  refine ⟨fun w hw => ?_, h.2.1.moved hW.alike, h.2.2.moved hW.alike⟩
  have h1 := h.1 w hw
  have h2 := (List.mem_filter.mp hw).2
  cases w <;> first | exact va_Nw.warmM hW h1 | cases h2
theorem zNw_vm {s U : State} (hvm : s.vm = U.vm) (h : zNw s) : zNw U := by
  refine ⟨fun w hw => ?_, va_AO.moved (by rw [hvm]; exact Vm.Alike.refl _) h.2.1, va_AO.moved (by rw [hvm]; exact Vm.Alike.refl _) h.2.2⟩
  have h1 := h.1 w hw
  have h2 := (List.mem_filter.mp hw).2
  cases w <;> first | exact va_tabs rfl hvm h1 | cases h2
def zLs (g : zG) (nL k : Nat) (ls : List (Option Value)) (la : Array Slot) : Prop := la.size = nL ∧ lv_wf la ∧ (∀ (j : Nat) (v : Value), ls[j]? = some (some v) → la[j]? = some (.val (zv g v))) ∧ (∀ (j : Nat) (v : Value), ls[j]? = some (some v) → v.category = 2 → j = zLA k) ∧ ls.length ≤ nL
theorem zLs_has {g : zG} {nL k : Nat} {ls : List (Option Value)} {la : Array Slot} (h : zLs g nL k ls la) : lv_has la nL (((List.range ls.length).filterMap (fun j => (ls[j]?).join.map (fun v => (j, zv g v))))) := by
  refine ⟨h.1, h.2.1, fun q hq => ?_⟩
  obtain ⟨j, -, hj⟩ := List.mem_filterMap.mp hq
  obtain ⟨v, hv, rfl⟩ := Option.map_eq_some_iff.mp hj
  exact h.2.2.1 j v (Option.join_eq_some_iff.mp hv)
theorem zLs_mem {g : zG} {ls : List (Option Value)} {j : Nat} {v : Value} (h : ls[j]? = some (some v)) : (j, zv g v) ∈ ((List.range ls.length).filterMap (fun j => (ls[j]?).join.map (fun v => (j, zv g v)))) := by
  refine List.mem_filterMap.mpr ⟨j, List.mem_range.mpr (List.getElem?_eq_some_iff.mp h).1, ?_⟩
  rw [h]
  rfl
/-- the locals behind a store of an int or a reference -/
theorem zLs_set {g : zG} {nL k : Nat} {ls ls' : List (Option Value)} {la la' : Array Slot} {j : Nat} {v : Value} (h : zLs g nL k ls la) (hs : zset k ls j v = some ls') (hv : v.category = 1)
    (ha : lv_has la' nL ((j, zv g v) :: ((List.range ls.length).filterMap (fun j => (ls[j]?).join.map (fun v => (j, zv g v)))).filter (fun q => !(q.1 == j) && !(q.1 + 1 == j && q.2.category == 2)))) : zLs g nL k ls' la' := by
  unfold zset at hs
  split at hs
  · cases hs
  · rename_i hj
    cases hs
    refine ⟨ha.1, ha.2.1, fun i w hi => ?_, fun i w hi hw => ?_, by rw [List.length_set]; exact h.2.2.2.2⟩
    · rw [List.getElem?_set] at hi
      by_cases hij : j = i
      · subst hij
        rw [if_pos rfl] at hi
        split at hi
        · cases hi
          exact ha.2.2 (j, zv g v) List.mem_cons_self
        · cases hi
      · rw [if_neg hij] at hi
        refine ha.2.2 (i, zv g w) (List.mem_cons_of_mem _ (List.mem_filter.mpr ⟨zLs_mem hi, ?_⟩))
        have h1 : (i == j) = false := by simp; omega
        by_cases h2 : w.category = 2
        · have h3 := h.2.2.2.1 i w hi h2
          have h4 : (i + 1 == j) = false := by simp; omega
          simp [h1, h4]
        · simp [h1, zv_cat, h2]
    · rw [List.getElem?_set] at hi
      by_cases hij : j = i
      · subst hij
        rw [if_pos rfl] at hi
        split at hi
        · cases hi
          omega
        · cases hi
      · rw [if_neg hij] at hi
        exact h.2.2.2.1 i w hi hw
theorem zset_lt {k j : Nat} {ls ls' : List (Option Value)} {v : Value} (hs : zset k ls j v = some ls') : j < ls.length := by
  unfold zset at hs
  split at hs
  · cases hs
  · omega
/-- the locals behind a store of a long -/
theorem zLs_set2 {g : zG} {nL k : Nat} {ls : List (Option Value)} {la la' : Array Slot} {j : Nat} {x : Int64} (h : zLs g nL k ls la) (hj : j = zLA k)
    (ha : lv_has la' nL ((j, Value.long x) :: ((List.range ls.length).filterMap (fun j => (ls[j]?).join.map (fun v => (j, zv g v)))).filter (fun q => !(q.1 == j) && (!(q.1 == j + 1) && !(q.1 + 1 == j && q.2.category == 2))))) : zLs g nL k ((ls.set j (some (.long x))).set (j + 1) none) la' := by
  have key : ∀ (i : Nat) (w : Value), ((ls.set j (some (.long x))).set (j + 1) none)[i]? = some (some w) → (i = j ∧ w = .long x) ∨ (i ≠ j ∧ i ≠ j + 1 ∧ ls[i]? = some (some w)) := by
    intro i w hi
    rw [List.getElem?_set] at hi
    by_cases h1 : j + 1 = i
    · rw [if_pos h1] at hi
      split at hi <;> cases hi
    · rw [if_neg h1, List.getElem?_set] at hi
      by_cases h2 : j = i
      · rw [if_pos h2] at hi
        split at hi
        · cases hi
          exact Or.inl ⟨h2.symm, rfl⟩
        · cases hi
      · rw [if_neg h2] at hi
        exact Or.inr ⟨fun e => h2 e.symm, fun e => h1 e.symm, hi⟩
  refine ⟨ha.1, ha.2.1, fun i w hi => ?_, fun i w hi hw => ?_, by rw [List.length_set, List.length_set]; exact h.2.2.2.2⟩
  · rcases key i w hi with ⟨rfl, rfl⟩ | ⟨h1, h2, h3⟩
    · exact ha.2.2 _ List.mem_cons_self
    · refine ha.2.2 (i, zv g w) (List.mem_cons_of_mem _ (List.mem_filter.mpr ⟨zLs_mem h3, ?_⟩))
      have e1 : (i == j) = false := by simp; omega
      have e2 : (i == j + 1) = false := by simp; omega
      by_cases h4 : w.category = 2
      · have h5 := h.2.2.2.1 i w h3 h4
        omega
      · simp [e1, e2, zv_cat, h4]
  · rcases key i w hi with ⟨rfl, rfl⟩ | ⟨h1, h2, h3⟩
    · exact hj
    · exact h.2.2.2.1 i w h3 hw
theorem zlg_sl {g : zG} {as : List Value} (h : zcat1 as = true) : (lg_sl (as.map (zv g))).length = as.length := by
  induction as with
  | nil => rfl
  | cons v l ih =>
    simp only [zcat1, List.all_cons, Bool.and_eq_true, beq_iff_eq] at h
    have h1 : (zv g v).category = 1 := (zv_cat g v).trans h.1
    have h2 := ih h.2
    rw [List.map_cons]
    simp only [lg_sl, List.flatMap_cons, List.length_append] at h2 ⊢
    rw [h2]
    simp [h1]
    omega
theorem zlv_args {g : zG} {as : List Value} (h : zcat1 as = true) : ∀ (i j : Nat) (v : Value), as[j]? = some v → (i + j, zv g v) ∈ lv_args i (as.map (zv g)) := by
  induction as with
  | nil => intro i j v hj; simp at hj
  | cons w l ih =>
    simp only [zcat1, List.all_cons, Bool.and_eq_true, beq_iff_eq] at h
    have h1 : (zv g w).category = 1 := (zv_cat g w).trans h.1
    intro i j v hj
    rw [List.map_cons]
    simp only [lv_args, h1]
    cases j with
    | zero =>
      simp at hj
      subst hj
      exact List.mem_cons_self
    | succ j =>
      simp at hj
      have h2 := ih h.2 (i + 1) j v hj
      rw [show i + 1 + j = i + (j + 1) by omega] at h2
      exact List.mem_cons_of_mem _ (by simpa using h2)
theorem zLs_ent {g : zG} {k n : Nat} {as : List Value} (h : zcat1 as = true) (hl : as.length ≤ n) : zLs g n k (zent as n) ((lg_sl (as.map (zv g)) ++ List.replicate (n - (lg_sl (as.map (zv g))).length) Slot.unset).toArray) := by
  have h0 := lv_entry (as.map (zv g)) (n := n) (by rw [zlg_sl h]; exact hl)
  have key : ∀ (j : Nat) (v : Value), (zent as n)[j]? = some (some v) → as[j]? = some v := by
    intro j v hj
    unfold zent at hj
    by_cases hjl : j < as.length
    · rw [List.getElem?_append_left (by rw [List.length_map]; exact hjl), List.getElem?_map] at hj
      obtain ⟨w, hw, e⟩ := Option.map_eq_some_iff.mp hj
      cases e
      exact hw
    · rw [List.getElem?_append_right (by rw [List.length_map]; omega)] at hj
      have := List.eq_of_mem_replicate (List.mem_of_getElem? hj)
      cases this
  refine ⟨h0.1, h0.2.1, fun j v hj => ?_, fun j v hj hv => ?_, ?_⟩
  · have h2 := zlv_args (g := g) h 0 j v (key j v hj)
    rw [Nat.zero_add] at h2
    exact h0.2.2 _ h2
  · have h3 := List.all_eq_true.mp h v (List.mem_of_getElem? (key j v hj))
    simp only [beq_iff_eq] at h3
    omega
  · unfold zent
    rw [List.length_append, List.length_map, List.length_replicate]
    omega
end
section
/-! a run of the interpreter is a run of the machine -/
/-- the cells grow -/
theorem zins_n {rec : zSt → Option zRs} (hrec : ∀ s y, rec s = some y → s.2.2.2.2.1 ≤ y.2.1) {sc : zScr} {k : Nat} {M : zMe} {pc : Nat} {ls : List (Option Value)} {st : List Value} {h : zHp} {ins : Instr} {x : zRs} (hr : zstp rec (zins sc k M pc ls st h ins) = some x) : h.1 ≤ x.2.1 := by
  have go : ∀ (pc' : Nat) (ls' : List (Option Value)) (st' : List Value) (h' : zHp), h.1 ≤ h'.1 → zstp rec (zgo k pc' ls' st' h') = some x → h.1 ≤ x.2.1 := fun pc' ls' st' h' hl e => Nat.le_trans hl (hrec _ _ e)
  have go2 : ∀ (pc' : Nat) (ls' : List (Option Value)) (st' : List Value) (i' : Nat → Nat → Int32) (r' : Nat → Nat → Option Nat) (l' : Nat → Nat → Int64), zstp rec (zgo k pc' ls' st' (h.1, i', r', l')) = some x → h.1 ≤ x.2.1 := fun pc' ls' st' i' r' l' e => go pc' ls' st' (h.1, i', r', l') (Nat.le_refl h.1) e
  have go3 : ∀ (pc' : Nat) (ls' : List (Option Value)) (st' : List Value) (i' : Nat → Nat → Int32) (r' : Nat → Nat → Option Nat) (l' : Nat → Nat → Int64), zstp rec (zgo k pc' ls' st' (h.1 + 1, i', r', l')) = some x → h.1 ≤ x.2.1 := fun pc' ls' st' i' r' l' e => go pc' ls' st' (h.1 + 1, i', r', l') (Nat.le_succ h.1) e
  have jp : ∀ (t : Option Nat) (st' : List Value), zstp rec (zjp k t ls st' h) = some x → h.1 ≤ x.2.1 := by
    intro t st' e
    cases t with
    | none => cases e
    | some t => exact go _ _ _ _ (Nat.le_refl _) e
  have cl : ∀ (as rest : List Value) (k' : Nat), zstp rec (zcall k M pc ls as rest h k') = some x → h.1 ≤ x.2.1 := by
    intro as rest k' e
    unfold zcall at e
    split at e
    · cases e
    · split at e
      · simp only [zstp] at e
        obtain ⟨y, h1, h2⟩ := Option.bind_eq_some_iff.mp e
        exact Nat.le_trans (hrec _ _ h1) (hrec _ _ h2)
      · cases e
  have nn : zstp rec none = some x → h.1 ≤ x.2.1 := fun e => by cases e
  cases ins <;> simp only [zins] at hr <;> first | (exact nn hr; done) | ((repeat' split at hr) <;> first | exact nn hr | exact go _ _ _ h (Nat.le_refl _) hr | exact go2 _ _ _ _ _ _ hr | exact go3 _ _ _ _ _ _ hr | exact jp _ _ hr | exact cl _ _ _ hr | (simp only [zstp, Option.some.injEq] at hr; subst hr; exact Nat.le_refl _))
theorem zrun_n (sc : zScr) : ∀ (n : Nat) (s : zSt) (x : zRs), zrun sc n s = some x → s.2.2.2.2.1 ≤ x.2.1
  | 0, _, _, h => by cases h
  | n + 1, s, x, h => by
    have h : zstp (zrun sc n) (zact sc s) = some x := h
    unfold zact at h
    split at h
    · cases h
    · split at h
      · cases h
      · split at h
        · exact zins_n (zrun_n sc n) h
        · cases h
/-- what a method's contract says -/
def zws (N : zMe) : List Cond := Cond.code N.1 N.2.1 N.2.2.1 N.2.2.2.1 :: zTB
def zrm (N : zMe) (mc ms : Nat) : Room := { frames := N.2.2.2.2.2.1, cells := mc, slots := ms, locals := N.2.2.2.2.2.2 }
def zPc (g : zG) (sc : zScr) (as : List Value) (h : zHp) : Array Value → State → Prop := va_Pc (as.map (zv g)) (fun U => zRep g h U.heap ∧ va_K g.1 zCl (ztys g) U ∧ zNw U ∧ va_X (zb g) sc.1 sc.2 U U.heap ∧ zb g < zs g)
def zB (g : zG) (h : zHp) (_ : Unit) (t : State) : Prop := zRep g h t.heap
def zQc (g : zG) (x : zRs) : Array Value → State → Outcome → State → Prop := fun a st o t => match x.1 with
  | .int v => va_Qi (fun r (_ : Unit) => r = v) (zB g x.2) (zA g) a st o t
  | .long v => va_Ql (fun r (_ : Unit) => r = v) (zB g x.2) (zA g) a st o t
  | _ => va_Qv (fun (_ : Unit) => True) (zB g x.2) (zA g) a st o t
def zRet (M : zMe) (pc : Nat) (v : Value) : Prop := (∃ r, v = .int r ∧ decode M.2.1 pc = .ok (.ireturn, 1) ∧ (M.2.2.2.1 = some .int ∨ (M.2.2.2.1 = some .boolean ∧ (r = 0 ∨ r = 1)))) ∨ (∃ r, v = .long r ∧ decode M.2.1 pc = .ok (.lreturn, 1) ∧ M.2.2.2.1 = some .long) ∨ (v = .null ∧ decode M.2.1 pc = .ok (.return_, 1) ∧ M.2.2.2.1 = none)
def zrst (v : Value) : List Value := match v with
  | .null => []
  | v => [v]
def zCx (M : zMe) (g : zG) (sc : zScr) (p : Program) (R : Room) (sS : State) (m : MethodId) (args : Array Value) (meth : Method) (c : Code) : Prop :=
  p.tables.exec = Jvm.exec ∧ c.code = M.2.1 ∧ c.maxLocals = M.2.2.1 ∧ sS.vm.findClass (zRN M.2.2.2.2.1) = some m.cls ∧ (∀ w ∈ zTB, w.before args sS = true) ∧ va_K g.1 zCl (ztys g) sS ∧ zNw sS ∧ (va_X (zb g) sc.1 sc.2 sS sS.heap ∧ zb g < zs g) ∧ zs g ≤ sS.heap.size ∧ (M.1.name = "<init>" → meth.name = "<init>") ∧ M.2.2.2.2.2.1 ≤ R.frames ∧ M.2.2.2.2.2.2 ≤ R.locals
def zSnd (l0 : Launch) (sc : zScr) (s : zSt) (x : zRs) : Prop :=
  ∀ (M : zMe) (g : zG) {p : Program} {e : Env} {R : Room} {sS : State} {m : MethodId} {args : Array Value} {below : List Frame} {meth : Method} {c : Code} (H : Heap) (locs : List Loc) (cells slots : Nat) (Q : State → Prop) (la : Array Slot),
    zM s.1 = some M → zCx M g sc p R sS m args meth c → zRep g s.2.2.2.2 H → va_S (zA g) sS.heap H locs → zLs g M.2.2.1 s.1 s.2.2.1 la →
    zs g + s.2.2.2.2.1 = sS.heap.size + cells → cells + (x.2.1 - s.2.2.2.2.1) ≤ R.cells → slots + (zSL x.2.1 - zSL s.2.2.2.2.1) ≤ R.slots →
    (∀ (pcR : Nat) (lsR : Array Slot) (H' : Heap) (locs' : List Loc), zRet M pcR x.1 → zRep g x.2 H' → va_S (zA g) sS.heap H' locs' → W p l0 e R sS m args below meth c H' locs' (cells + (x.2.1 - s.2.2.2.2.1)) (slots + (zSL x.2.1 - zSL s.2.2.2.2.1)) Q (F0 m pcR lsR (zrst x.1))) →
    W p l0 e R sS m args below meth c H locs cells slots Q (F0 m s.2.1 la (s.2.2.2.1.map (zv g)))
set_option maxHeartbeats 4000000 in
/-- the contract of a method out of the soundness of its runs -/
theorem zmet {l0 : Launch} {sc : zScr} {k : Nat} {N : zMe} {as : List Value} {h : zHp} {x : zRs} (g : zG) (hk : k < 185) (hM : zM k = some N) (hp : plainName N.1.cls = true) (hcls : N.1.cls = zRN N.2.2.2.2.1) (hc : zcat1 as = true) (hl : as.length ≤ N.2.2.1) (hS : zSnd l0 sc (k, 0, zent as N.2.2.1, [], h) x) :
    Met l0 N.1 (zws N) (zrm N (x.2.1 - h.1) (zSL x.2.1 - zSL h.1)) (zPc g sc as h) (zQc g x) (x.2.1 - h.1) (zSL x.2.1 - zSL h.1) (zA g) := by
  refine Met.ofW (cc := N.2.1) (maxL := N.2.2.1) (ret := N.2.2.2.1) hp rfl ?_
  intro p e s m args below meth c s₁ B hml hv
  obtain ⟨rfl, hRep, hK, hN, hX, hbs⟩ := hv
  have hx := B.exec
  have hb := B.bytes
  have hr := B.returns
  have hts0 := atoms_spec (ws := zws N) B.pre
  have hts : ∀ w ∈ zTB, w.before (as.map (zv g)).toArray s = true := fun w hw => hts0 w (List.mem_cons_of_mem _ hw)
  have hown : s.vm.findClass N.1.cls = some m.cls := findClass_of_methodNamed B.named
  rw [hcls] at hown
  have hlocks := B.notSynchronized
  have hin : meth.name = N.1.name := (name_of_methodNamed B.named B.method).1
  have hsz : zs g ≤ s.heap.size := by rw [hRep.1]; omega
  rw [lg_entry_eq]
  have hL := zLs_ent (g := g) (k := k) hc hl
  refine hS N g s.heap [] 0 0 _ _ hM ⟨hx, hb, hml, hown, hts, hK, hN, ⟨hX, hbs⟩, hsz, fun q => hin.trans q, Nat.le_refl _, Nat.le_refl _⟩ hRep va_S.rf hL (by rw [hRep.1]; rfl) (by rw [Nat.zero_add]; exact Nat.le_refl _) (by rw [Nat.zero_add]; exact Nat.le_refl _) ?_
  intro pcR lsR H' locs' hret hR' hS'
  refine W.cs (Nat.zero_add _) (Nat.zero_add _) ?_
  obtain ⟨v, h1⟩ := x
  dsimp only at hret hR' ⊢
  rcases hret with ⟨r, rfl, hd, hty | ⟨hty, hrb⟩⟩ | ⟨r, rfl, hd, hty⟩ | ⟨rfl, hd, hty⟩
  · exact W.iret (v := r) hx hb (hr.trans hty) (fun t ht hW => ⟨⟨r, (), rfl, rfl, by show zRep g _ t.heap; rw [ht]; exact hR'⟩, hS'.F ht⟩) hS'.2.2 hd
  · exact W.zret (v := r) (ty := .boolean) hx hb (hr.trans hty) (by rcases hrb with rfl | rfl <;> rfl) (fun t ht hW => ⟨⟨r, (), rfl, rfl, by show zRep g _ t.heap; rw [ht]; exact hR'⟩, hS'.F ht⟩) hS'.2.2 hd
  · exact W.lret (v := r) hx hb (hr.trans hty) (fun t ht hW => ⟨⟨r, (), rfl, rfl, by show zRep g _ t.heap; rw [ht]; exact hR'⟩, hS'.F ht⟩) hS'.2.2 hd
  · exact W.vret hx hb (hr.trans hty) (fun t ht hW => ⟨⟨(), rfl, trivial, by show zRep g _ t.heap; rw [ht]; exact hR'⟩, hS'.F ht⟩) hS'.2.2 hd
theorem zgoodIn {N : zMe} (h : Cond.code N.1 N.2.1 N.2.2.1 N.2.2.2.1 ∈ zTB) : GoodIn zTB (zws N) := by
  intro w hw
  rcases List.mem_cons.mp hw with rfl | hw
  · exact ⟨h, Or.inl rfl⟩
  · exact ⟨hw, good_of_word (zgood w hw)⟩
/-- what is known of a method that is called -/
theorem zMN_spec {k na : Nat} (h : zMNok k na = true) : ∃ (N : zMe) (P : Nat × Nat × Nat × Nat × Nat), zM k = some N ∧ zMP[k]? = some P ∧ k < 185 ∧ Cond.initialized N.1.cls ∈ zTB ∧ plainName N.1.cls = true ∧ (N.1.cls ≠ "java/lang/invoke/MethodHandle" ∧ N.1.cls ≠ "java/lang/invoke/VarHandle") ∧ (parseMethodDescriptor N.1.desc).map (fun d => d.parameters.length) = some na ∧ N.1.cls = zRN N.2.2.2.2.1 := by
  unfold zMNok at h
  split at h
  · rename_i N P hN hP
    simp only [Bool.and_eq_true, decide_eq_true_eq] at h
    exact ⟨N, P, hN, hP, h.1, zinT_mem h.2.1, h.2.2.1, h.2.2.2.1, h.2.2.2.2.1, h.2.2.2.2.2⟩
  · cases h
theorem zcases {x : zRs} {M : zMe} {pc : Nat} (h : zRet M pc x.1) : (∃ r, x.1 = .int r ∧ M.2.2.2.1 ≠ none) ∨ (∃ r, x.1 = .long r ∧ M.2.2.2.1 ≠ none) ∨ (x.1 = .null ∧ M.2.2.2.1 = none) := by
  rcases h with ⟨r, h1, -, h2 | ⟨h2, -⟩⟩ | ⟨r, h1, -, h2⟩ | ⟨h1, -, h2⟩
  · exact Or.inl ⟨r, h1, by rw [h2]; exact fun h => by cases h⟩
  · exact Or.inl ⟨r, h1, by rw [h2]; exact fun h => by cases h⟩
  · exact Or.inr (Or.inl ⟨r, h1, by rw [h2]; exact fun h => by cases h⟩)
  · exact Or.inr (Or.inr ⟨h1, h2⟩)
/-- the kind of what a method answers -/
def zRk (N : zMe) (v : Value) : Prop := (∃ r, v = .int r ∧ N.2.2.2.1 ≠ none) ∨ (∃ r, v = .long r ∧ N.2.2.2.1 ≠ none) ∨ (v = .null ∧ N.2.2.2.1 = none)
theorem zrun_k (sc : zScr) : ∀ (n : Nat) (s : zSt) (x : zRs) (N : zMe), zrun sc n s = some x → zM s.1 = some N → zRk N x.1
  | 0, _, _, _, h, _ => by cases h
  | n + 1, s, x, N, h, hN => by
    have h : zstp (zrun sc n) (zact sc s) = some x := h
    unfold zact at h
    rw [hN] at h
    dsimp only at h
    split at h
    · cases h
    rename_i y hd
    by_cases hlen : y.2 = zlen y.1 y.2
    case neg => rw [if_neg hlen] at h; cases h
    rw [if_pos hlen] at h
    have go : ∀ (pc' : Nat) (ls' : List (Option Value)) (st' : List Value) (h' : zHp), zstp (zrun sc n) (zgo s.1 pc' ls' st' h') = some x → zRk N x.1 := fun pc' ls' st' h' e => zrun_k sc n _ x N e hN
    have jp : ∀ (t : Option Nat) (ls : List (Option Value)) (st' : List Value) (h' : zHp), zstp (zrun sc n) (zjp s.1 t ls st' h') = some x → zRk N x.1 := by
      intro t ls st' h' e
      cases t with
      | none => cases e
      | some t => exact go _ _ _ _ e
    have cl : ∀ (pc : Nat) (ls : List (Option Value)) (as rest : List Value) (h' : zHp) (k' : Nat), zstp (zrun sc n) (zcall s.1 N pc ls as rest h' k') = some x → zRk N x.1 := by
      intro pc ls as rest h' k' e
      unfold zcall at e
      split at e
      · cases e
      · split at e
        · simp only [zstp] at e
          obtain ⟨y, h1, h2⟩ := Option.bind_eq_some_iff.mp e
          exact zrun_k sc n _ x N h2 hN
        · cases e
    have nn : zstp (zrun sc n) none = some x → zRk N x.1 := fun e => by cases e
    generalize y.1 = ins at h
    cases ins <;> simp only [zins] at h <;> first
      | (exact nn h; done)
      | ((repeat' split at h) <;> first | exact nn h | exact go _ _ _ _ h | exact jp _ _ _ _ h | exact cl _ _ _ _ _ _ h | (rename_i hty; simp only [zstp, Option.some.injEq] at h; subst h; rcases hty with hty | ⟨hty, -⟩ <;> exact Or.inl ⟨_, rfl, by rw [hty]; exact fun h => by cases h⟩) | (rename_i hty; simp only [zstp, Option.some.injEq] at h; subst h; exact Or.inr (Or.inl ⟨_, rfl, by rw [hty]; exact fun h => by cases h⟩)) | (rename_i hty; simp only [zstp, Option.some.injEq] at h; subst h; exact Or.inr (Or.inr ⟨rfl, hty⟩)))
end
section
/-! the calls' words, by the kind of the call -/
def zNS (N : zMe) (k na : Nat) : Prop := zM k = some N ∧ k < 185 ∧ Cond.code N.1 N.2.1 N.2.2.1 N.2.2.2.1 ∈ zTB ∧ Cond.initialized N.1.cls ∈ zTB ∧ plainName N.1.cls = true ∧ (N.1.cls ≠ "java/lang/invoke/MethodHandle" ∧ N.1.cls ≠ "java/lang/invoke/VarHandle") ∧ (parseMethodDescriptor N.1.desc).map (fun d => d.parameters.length) = some na ∧ N.1.cls = zRN N.2.2.2.2.1
theorem zM0 {o i k na : Nat} (h : zMr o i = some (k, 0, na)) : ∃ N, zNS N k na ∧ Cond.methodLink (zRN o) i N.1 ∈ zTB ∧ Cond.instanceMethod N.1 ∈ zTB ∧ Cond.selects N.1.cls N.1 N.1 ∈ zTB ∧ N.2.2.2.2.1 < 11 := by
  obtain ⟨q, hq⟩ := zMr_spec h
  have hq : (zMNok k na && (match zM k, zMP[k]?, 0 with
    | some N, some P, 0 => zinT q (.methodLink (zRN o) i N.1) && (zinT P.2.1 (.instanceMethod N.1) && (zinT P.2.2.2.1 (.selects N.1.cls N.1 N.1) && decide (N.2.2.2.2.1 < 11)))
    | some N, some P, 1 => zinT q (.methodLink (zRN o) i N.1) && zinT P.2.2.1 (.static N.1)
    | some N, some P, 2 => zinT q (.methodLink (zRN o) i N.1) && (zinT P.2.1 (.instanceMethod N.1) && (decide (N.1.name = "<init>") && decide (N.2.2.2.1 = none)))
    | some N, some P, 3 => zinN q (.methodLinkNest (zRN o) i N.1 "HarpFences") && (zinT P.2.1 (.instanceMethod N.1) && (decide (N.1.name = "<init>") && decide (N.2.2.2.1 = none)))
    | _, _, _ => false)) = true := hq
  rw [Bool.and_eq_true] at hq
  obtain ⟨N, P, hN, hP, h1, h2, h3, h4, h5, h6⟩ := zMN_spec hq.1
  have h7 := hq.2
  rw [hN, hP] at h7
  simp only [Bool.and_eq_true, decide_eq_true_eq] at h7
  exact ⟨N, ⟨hN, h1, zCD_of h1 hN, h2, h3, h4, h5, h6⟩, zinT_mem h7.1, zinT_mem h7.2.1, zinT_mem h7.2.2.1, h7.2.2.2⟩
theorem zM1 {o i k na : Nat} (h : zMr o i = some (k, 1, na)) : ∃ N, zNS N k na ∧ Cond.methodLink (zRN o) i N.1 ∈ zTB ∧ Cond.static N.1 ∈ zTB := by
  obtain ⟨q, hq⟩ := zMr_spec h
  have hq : (zMNok k na && (match zM k, zMP[k]?, 1 with
    | some N, some P, 0 => zinT q (.methodLink (zRN o) i N.1) && (zinT P.2.1 (.instanceMethod N.1) && (zinT P.2.2.2.1 (.selects N.1.cls N.1 N.1) && decide (N.2.2.2.2.1 < 11)))
    | some N, some P, 1 => zinT q (.methodLink (zRN o) i N.1) && zinT P.2.2.1 (.static N.1)
    | some N, some P, 2 => zinT q (.methodLink (zRN o) i N.1) && (zinT P.2.1 (.instanceMethod N.1) && (decide (N.1.name = "<init>") && decide (N.2.2.2.1 = none)))
    | some N, some P, 3 => zinN q (.methodLinkNest (zRN o) i N.1 "HarpFences") && (zinT P.2.1 (.instanceMethod N.1) && (decide (N.1.name = "<init>") && decide (N.2.2.2.1 = none)))
    | _, _, _ => false)) = true := hq
  rw [Bool.and_eq_true] at hq
  obtain ⟨N, P, hN, hP, h1, h2, h3, h4, h5, h6⟩ := zMN_spec hq.1
  have h7 := hq.2
  rw [hN, hP] at h7
  simp only [Bool.and_eq_true] at h7
  exact ⟨N, ⟨hN, h1, zCD_of h1 hN, h2, h3, h4, h5, h6⟩, zinT_mem h7.1, zinT_mem h7.2⟩
theorem zM2 {o i k na : Nat} (h : zMr o i = some (k, 2, na)) : ∃ N, zNS N k na ∧ Cond.methodLink (zRN o) i N.1 ∈ zTB ∧ Cond.instanceMethod N.1 ∈ zTB ∧ N.1.name = "<init>" ∧ N.2.2.2.1 = none := by
  obtain ⟨q, hq⟩ := zMr_spec h
  have hq : (zMNok k na && (match zM k, zMP[k]?, 2 with
    | some N, some P, 0 => zinT q (.methodLink (zRN o) i N.1) && (zinT P.2.1 (.instanceMethod N.1) && (zinT P.2.2.2.1 (.selects N.1.cls N.1 N.1) && decide (N.2.2.2.2.1 < 11)))
    | some N, some P, 1 => zinT q (.methodLink (zRN o) i N.1) && zinT P.2.2.1 (.static N.1)
    | some N, some P, 2 => zinT q (.methodLink (zRN o) i N.1) && (zinT P.2.1 (.instanceMethod N.1) && (decide (N.1.name = "<init>") && decide (N.2.2.2.1 = none)))
    | some N, some P, 3 => zinN q (.methodLinkNest (zRN o) i N.1 "HarpFences") && (zinT P.2.1 (.instanceMethod N.1) && (decide (N.1.name = "<init>") && decide (N.2.2.2.1 = none)))
    | _, _, _ => false)) = true := hq
  rw [Bool.and_eq_true] at hq
  obtain ⟨N, P, hN, hP, h1, h2, h3, h4, h5, h6⟩ := zMN_spec hq.1
  have h7 := hq.2
  rw [hN, hP] at h7
  simp only [Bool.and_eq_true, decide_eq_true_eq] at h7
  exact ⟨N, ⟨hN, h1, zCD_of h1 hN, h2, h3, h4, h5, h6⟩, zinT_mem h7.1, zinT_mem h7.2.1, h7.2.2.1, h7.2.2.2⟩
theorem zM3 {o i k na : Nat} (h : zMr o i = some (k, 3, na)) : ∃ N, zNS N k na ∧ Cond.methodLinkNest (zRN o) i N.1 "HarpFences" ∈ zNest ∧ Cond.instanceMethod N.1 ∈ zTB ∧ N.1.name = "<init>" ∧ N.2.2.2.1 = none := by
  obtain ⟨q, hq⟩ := zMr_spec h
  have hq : (zMNok k na && (match zM k, zMP[k]?, 3 with
    | some N, some P, 0 => zinT q (.methodLink (zRN o) i N.1) && (zinT P.2.1 (.instanceMethod N.1) && (zinT P.2.2.2.1 (.selects N.1.cls N.1 N.1) && decide (N.2.2.2.2.1 < 11)))
    | some N, some P, 1 => zinT q (.methodLink (zRN o) i N.1) && zinT P.2.2.1 (.static N.1)
    | some N, some P, 2 => zinT q (.methodLink (zRN o) i N.1) && (zinT P.2.1 (.instanceMethod N.1) && (decide (N.1.name = "<init>") && decide (N.2.2.2.1 = none)))
    | some N, some P, 3 => zinN q (.methodLinkNest (zRN o) i N.1 "HarpFences") && (zinT P.2.1 (.instanceMethod N.1) && (decide (N.1.name = "<init>") && decide (N.2.2.2.1 = none)))
    | _, _, _ => false)) = true := hq
  rw [Bool.and_eq_true] at hq
  obtain ⟨N, P, hN, hP, h1, h2, h3, h4, h5, h6⟩ := zMN_spec hq.1
  have h7 := hq.2
  rw [hN, hP] at h7
  simp only [Bool.and_eq_true, decide_eq_true_eq] at h7
  exact ⟨N, ⟨hN, h1, zCD_of h1 hN, h2, h3, h4, h5, h6⟩, zinN_mem h7.1, zinT_mem h7.2.1, h7.2.2.1, h7.2.2.2⟩
theorem zMk {o i k kd na : Nat} {w : Cond} (h : zMr o i = some (k, kd, na)) (hw : ∀ q, zMok (o, i, k, kd, na, q) = true → zinT q w = true) : w ∈ zTB := by
  obtain ⟨q, hq⟩ := zMr_spec h
  exact zinT_mem (hw q hq)
theorem zCl_nm {ci : Nat} (h : ci < 11) : ∃ r, zCl[ci]? = some r ∧ r.1 = zRN ci := by
  match ci, h with
  | 0, _ => exact ⟨_, rfl, rfl⟩
  | 1, _ => exact ⟨_, rfl, rfl⟩
  | 2, _ => exact ⟨_, rfl, rfl⟩
  | 3, _ => exact ⟨_, rfl, rfl⟩
  | 4, _ => exact ⟨_, rfl, rfl⟩
  | 5, _ => exact ⟨_, rfl, rfl⟩
  | 6, _ => exact ⟨_, rfl, rfl⟩
  | 7, _ => exact ⟨_, rfl, rfl⟩
  | 8, _ => exact ⟨_, rfl, rfl⟩
  | 9, _ => exact ⟨_, rfl, rfl⟩
  | 10, _ => exact ⟨_, rfl, rfl⟩
theorem zTg_spec {pc t : Nat} {off : Int} (h : zTg pc off = some t) : (pc : Int) + off = (t : Int) := by
  unfold zTg at h
  split at h
  · rename_i u hu
    cases h
    exact hu
  · cases h
theorem zcl_0 {t : FieldType} (h : zcl t = 0) : t = .int := by cases t <;> first | rfl | cases h
theorem zcl_1 {t : FieldType} (h : zcl t = 1) : t = .long := by cases t <;> first | rfl | cases h
theorem zcl_3 {t : FieldType} (h : zcl t = 3) : t = .boolean := by cases t <;> first | rfl | cases h
theorem zcl_2 {t : FieldType} (h : zcl t = 2) (a : Nat) : narrow t (.ref a) = .ref a ∧ fits t (.ref a) = true := by cases t <;> first | exact ⟨rfl, rfl⟩ | cases h
theorem zSpl {st rest : List Value} {na a : Nat} (g : zG) (h : st.drop na = .ref a :: rest) : st.map (zv g) = (((st.take na).reverse.map (zv g)).reverse) ++ .ref (zs g + a) :: rest.map (zv g) := by
  rw [← List.map_reverse, List.reverse_reverse]
  have h1 : st = st.take na ++ st.drop na := (List.take_append_drop na st).symm
  rw [h] at h1
  conv => lhs; rw [h1]
  rw [List.map_append]
  rfl
theorem zoi1 : Cond.instanceMethod Lib.objectInit ∈ zTB := zinT_mem (q := 87) (by decide +kernel)
theorem zoi2 : Cond.code Lib.objectInit ⟨#[0xb1]⟩ 1 none ∈ zTB := zinT_mem (q := 88) (by decide +kernel)
theorem zmx1 : Cond.static Lib.Math.max.name ∈ zTB := zinT_mem (q := 349) (by decide +kernel)
theorem zmx2 : Cond.code Lib.Math.max.name Lib.Math.max.code 2 (some .int) ∈ zTB := zinT_mem (q := 350) (by decide +kernel)
theorem zmn1 : Cond.static Lib.Math.min.name ∈ zTB := zinT_mem (q := 476) (by decide +kernel)
theorem zmn2 : Cond.code Lib.Math.min.name Lib.Math.min.code 2 (some .int) ∈ zTB := zinT_mem (q := 477) (by decide +kernel)
theorem zma1 : Cond.static Lib.Math.abs.name ∈ zTB := zinT_mem (q := 772) (by decide +kernel)
theorem zma2 : Cond.code Lib.Math.abs.name Lib.Math.abs.code 1 (some .int) ∈ zTB := zinT_mem (q := 773) (by decide +kernel)
theorem zmi : Cond.initialized "java/lang/Math" ∈ zTB := zinT_mem (q := 76) (by decide +kernel)
theorem zac1 : Cond.native arraycopyName ∈ zTB := zinT_mem (q := 401) (by decide +kernel)
theorem zac2 : Cond.static arraycopyName ∈ zTB := zinT_mem (q := 400) (by decide +kernel)
theorem zac3 : Cond.initialized "java/lang/System" ∈ zTB := zinT_mem (q := 78) (by decide +kernel)
theorem zaci : Cond.arrayClass .int ∈ zTB := zinT_mem (q := 118) (by decide +kernel)
theorem zacb : Cond.arrayClass .byte ∈ zTB := zinT_mem (q := 996) (by decide +kernel)
theorem zacz : Cond.arrayClass .boolean ∈ zTB := zinT_mem (q := 997) (by decide +kernel)

section ZNEW
variable {p : Program} {l : Launch} {e : Env} {R : Room} {s : State} {m : MethodId} {args : Array Value} {below : List Frame} {meth : Method} {c : Code} {H : Heap} {locs : List Loc} {cells slots : Nat} {Q : State → Prop}
variable {cc : ByteArray} {pc : Nat} {la : Array Slot} {rest : List Value} {g : zG} {h h' : zHp}
/-- the heap behind a new cell, whose number is the next one -/
theorem zRep_push {H1 : Heap} (hR : zRep g h H) (hn : h'.1 = h.1 + 1) (ho : ∀ q, q < h.1 → zE g h' q = zE g h q) (hz : H1.size = H.size + 1) (hq : ∀ q, q < H.size → H1[q]? = H[q]?) (hc : va_at g.1 zCl (H.size, zE g h' h.1) H1) : zRep g h' H1 := by
  refine ⟨by rw [hz, hR.1, hn]; omega, ?_⟩
  rw [zW_push hn ho]
  refine (hR.2.kept (fun k q hk => hq q.1 (hR.2 k q hk).lt)).app (fun k q hk => ?_)
  have hz : k < 1 := (List.getElem?_eq_some_iff.mp hk).1
  rw [show k = 0 by omega] at hk
  cases hk
  rw [← hR.1]
  exact hc
theorem zS_push {H0 H1 : Heap} {A : Nat → Prop} (hS : va_S A H0 H locs) (hz : H1.size = H.size + 1) (hq : ∀ q, q < H.size → H1[q]? = H[q]?) : va_S A H0 H1 locs :=
  ⟨Nat.le_trans hS.1 (by omega), fun x h1 h2 => (hq x (Nat.lt_of_lt_of_le h1 hS.1)).trans (hS.2.1 x h1 h2), hS.2.2⟩
theorem zdef {t : FieldType} {h : zHp} {g : zG} {c a j : Nat} (ht : zTy c j = t) (h0 : zcl t ≠ 9) (h1 : h.2.1 a j = 0) (h2 : h.2.2.1 a j = none) (h3 : h.2.2.2 a j = 0) : defaultValue t = zfv g h c a j := by
  unfold zfv
  rw [ht, h1, h2, h3]
  cases t <;> first | rfl | exact absurd rfl h0
end ZNEW
theorem zTy_ok : ∀ c, c < 11 → ∀ j, zcl (zTy c j) ≠ 9 := by
  intro c hc j
  match c, hc with
  | 0, _ => (show zcl (tyX0 j) ≠ 9); unfold tyX0; split <;> decide
  | 1, _ => (show zcl (tyX1 j) ≠ 9); unfold tyX1; split <;> decide
  | 2, _ => (show zcl (tyX2 j) ≠ 9); unfold tyX2; split <;> decide
  | 3, _ => (show zcl (tyX3 j) ≠ 9); unfold tyX3; split <;> decide
  | 4, _ => (show zcl (tyX4 j) ≠ 9); unfold tyX4; split <;> decide
  | 5, _ => (show zcl (tyX5 j) ≠ 9); unfold tyX5; split <;> decide
  | 6, _ => (show zcl (tyX6 j) ≠ 9); unfold tyX6; split <;> decide
  | 7, _ => (show zcl (tyX7 j) ≠ 9); unfold tyX7; split <;> decide
  | 8, _ => (show zcl (tyX8 j) ≠ 9); unfold tyX8; split <;> decide
  | 9, _ => (show zcl (tyX9 j) ≠ 9); unfold tyX9; split <;> decide
  | 10, _ => (show zcl (tyX10 j) ≠ 9); unfold tyX10; split <;> decide
end
section
section ZSZ
variable {p : Program} {l : Launch} {e : Env} {R : Room} {s : State} {m : MethodId} {args : Array Value} {below : List Frame} {meth : Method} {c : Code} {locs : List Loc} {cells slots : Nat} {Q : State → Prop}
/-- a write leaves the heap as large as it was -/
theorem zsz {g : zG} {h h' : zHp} {a : Nat} {H1 : Heap} {g2 : JFrame} (hcz : zs g + h.1 = s.heap.size + cells) (ha : a < h.1) (hn : h'.1 = h.1) (hP1 : va_P g.1 zCl (zW g h') H1) (k : H1.size = zs g + h'.1 → W p l e R s m args below meth c H1 locs cells slots Q g2) : W p l e R s m args below meth c H1 locs cells slots Q g2 := by
  intro T hT X
  refine k ?_ T hT X
  have h1 : T.heap.size ≤ s.heap.size + cells := X.same.2.2.1
  rw [hT] at h1
  have h2 := (hP1 (h.1 - 1) _ (zW_get (by omega))).lt
  dsimp only at h2
  omega
end ZSZ
set_option maxHeartbeats 8000000 in
/-- a run of the interpreter is a run of the machine -/
theorem zsnd (l0 : Launch) (sc : zScr) : ∀ (n : Nat) (s : zSt) (x : zRs), zrun sc n s = some x → zSnd l0 sc s x
  | 0, _, _, h => by cases h
  | n + 1, (k, pc, ls, st, h), x, hrun0 => by
    intro M g p e R sS m args below meth c H locs cells slots Q la hM hC hRep hS hL hcz hc1 hc2 hret
    dsimp only at hM hRep hL hcz hc1 hc2 hret ⊢
    have hrun : zstp (zrun sc n) (zact sc (k, pc, ls, st, h)) = some x := hrun0
    have hxn : h.1 ≤ x.2.1 := zrun_n sc (n + 1) _ x hrun0
    unfold zact at hrun
    dsimp only at hrun
    rw [hM] at hrun
    dsimp only at hrun
    obtain ⟨hx, hb, hml, hown, hts, hK, hN, hX, hsz, hnm, hfr, hlo⟩ := id hC
    have ih := zsnd l0 sc n
    have hbs : zb g < sS.heap.size := Nat.lt_of_lt_of_le hX.2 hsz
    have hbA : ¬ zA g (zb g) := Nat.not_le.mpr hX.2
    have nn : zstp (zrun sc n) none = some x → False := fun e => by cases e
    split at hrun
    · exact (nn hrun).elim
    rename_i y hd
    by_cases hlen : y.2 = zlen y.1 y.2
    case neg => rw [if_neg hlen] at hrun; exact (nn hrun).elim
    rw [if_pos hlen] at hrun
    obtain ⟨ins, len⟩ := y
    dsimp only at hlen hrun
    have goL : ∀ (pc' : Nat) (ls' : List (Option Value)) (st' : List Value) (la' : Array Slot), zstp (zrun sc n) (zgo k pc' ls' st' h) = some x → zLs g M.2.2.1 k ls' la' → W p l0 e R sS m args below meth c H locs cells slots Q (F0 m pc' la' (st'.map (zv g))) := fun pc' ls' st' la' e hL' => ih (k, pc', ls', st', h) x e M g H locs cells slots Q la' hM hC hRep hS hL' hcz hc1 hc2 hret
    have go : ∀ (pc' : Nat) (st' : List Value), zstp (zrun sc n) (zgo k pc' ls st' h) = some x → W p l0 e R sS m args below meth c H locs cells slots Q (F0 m pc' la (st'.map (zv g))) := fun pc' st' e => goL pc' ls st' la e hL
    have jp : ∀ (t : Option Nat) (st' : List Value), zstp (zrun sc n) (zjp k t ls st' h) = some x → (∀ t', t = some t' → W p l0 e R sS m args below meth c H locs cells slots Q (F0 m t' la (st'.map (zv g))) → W p l0 e R sS m args below meth c H locs cells slots Q (F0 m pc la (st.map (zv g)))) → W p l0 e R sS m args below meth c H locs cells slots Q (F0 m pc la (st.map (zv g))) := by
      intro t st' e kk
      cases t with
      | none => cases e
      | some t => exact kk t rfl (go t st' e)
    have goH : ∀ (pc' : Nat) (st' : List Value) (i' : Nat → Nat → Int32) (r' : Nat → Nat → Option Nat) (l' : Nat → Nat → Int64) (H' : Heap) (locs' : List Loc), zstp (zrun sc n) (zgo k pc' ls st' (h.1, i', r', l')) = some x → zRep g (h.1, i', r', l') H' → va_S (zA g) sS.heap H' locs' → W p l0 e R sS m args below meth c H' locs' cells slots Q (F0 m pc' la (st'.map (zv g))) := fun pc' st' i' r' l' H' locs' e hR' hS' => ih (k, pc', ls, st', (h.1, i', r', l')) x e M g H' locs' cells slots Q la hM hC hR' hS' hL hcz hc1 hc2 hret
    have goN : ∀ (pc' : Nat) (st' : List Value) (i' : Nat → Nat → Int32) (r' : Nat → Nat → Option Nat) (l' : Nat → Nat → Int64) (H' : Heap), zstp (zrun sc n) (zgo k pc' ls st' (h.1 + 1, i', r', l')) = some x → (h.1 + 1 ≤ x.2.1 → zSL (h.1 + 1) ≤ zSL x.2.1 → zRep g (h.1 + 1, i', r', l') H') → va_S (zA g) sS.heap H' locs → W p l0 e R sS m args below meth c H' locs (cells + 1) (slots + (zK h.1).2) Q (F0 m pc' la (st'.map (zv g))) := by
      intro pc' st' i' r' l' H' e hR' hS'
      have h1 : h.1 + 1 ≤ x.2.1 := zrun_n sc n _ x e
      have h2 : zSL (h.1 + 1) ≤ zSL x.2.1 := zSL_mono h1
      have h3 := zSL_succ h.1
      refine ih (k, pc', ls, st', (h.1 + 1, i', r', l')) x e M g H' locs _ _ Q la hM hC (hR' h1 h2) hS' hL (by dsimp only; omega) (by dsimp only; omega) (by dsimp only; omega) (fun pcR lsR H2 locs2 q1 q2 q3 => W.cs ?_ ?_ (hret pcR lsR H2 locs2 q1 q2 q3))
      · dsimp only; omega
      · dsimp only; omega
    cases ins with
    | iadd =>
      have hl : len = 1 := hlen
      subst hl
      simp only [zins] at hrun
      split at hrun
      · exact lv_iadd hx hb hd (go _ _ hrun)
      · exact (nn hrun).elim
    | isub =>
      have hl : len = 1 := hlen
      subst hl
      simp only [zins] at hrun
      split at hrun
      · exact lv_isub hx hb hd (go _ _ hrun)
      · exact (nn hrun).elim
    | imul =>
      have hl : len = 1 := hlen
      subst hl
      simp only [zins] at hrun
      split at hrun
      · exact lv_imul hx hb hd (go _ _ hrun)
      · exact (nn hrun).elim
    | ishl =>
      have hl : len = 1 := hlen
      subst hl
      simp only [zins] at hrun
      split at hrun
      · exact lv_ishl hx hb hd (go _ _ hrun)
      · exact (nn hrun).elim
    | ishr =>
      have hl : len = 1 := hlen
      subst hl
      simp only [zins] at hrun
      split at hrun
      · exact lv_ishr hx hb hd (go _ _ hrun)
      · exact (nn hrun).elim
    | iand =>
      have hl : len = 1 := hlen
      subst hl
      simp only [zins] at hrun
      split at hrun
      · exact lv_iand hx hb hd (go _ _ hrun)
      · exact (nn hrun).elim
    | ior =>
      have hl : len = 1 := hlen
      subst hl
      simp only [zins] at hrun
      split at hrun
      · exact lv_ior hx hb hd (go _ _ hrun)
      · exact (nn hrun).elim
    | ixor =>
      have hl : len = 1 := hlen
      subst hl
      simp only [zins] at hrun
      split at hrun
      · exact lv_ixor hx hb hd (go _ _ hrun)
      · exact (nn hrun).elim
    | ladd =>
      have hl : len = 1 := hlen
      subst hl
      simp only [zins] at hrun
      split at hrun
      · exact lv_ladd hx hb hd (go _ _ hrun)
      · exact (nn hrun).elim
    | lmul =>
      have hl : len = 1 := hlen
      subst hl
      simp only [zins] at hrun
      split at hrun
      · exact lv_lmul hx hb hd (go _ _ hrun)
      · exact (nn hrun).elim
    | lcmp =>
      have hl : len = 1 := hlen
      subst hl
      simp only [zins] at hrun
      split at hrun
      · exact W.lcmp hx hb hd (go _ _ hrun)
      · exact (nn hrun).elim
    | iushr =>
      have hl : len = 1 := hlen
      subst hl
      simp only [zins] at hrun
      split at hrun
      · exact lv_iushr hx hb hd rfl (go _ _ hrun)
      · exact (nn hrun).elim
    | i2b =>
      have hl : len = 1 := hlen
      subst hl
      simp only [zins] at hrun
      split at hrun
      · exact lv_i2b hx hb hd rfl (go _ _ hrun)
      · exact (nn hrun).elim
    | idiv =>
      have hl : len = 1 := hlen
      subst hl
      simp only [zins] at hrun
      split at hrun
      · split at hrun
        · exact (nn hrun).elim
        · rename_i hne
          exact lv_idiv hx hb hd hne (go _ _ hrun)
      · exact (nn hrun).elim
    | irem =>
      have hl : len = 1 := hlen
      subst hl
      simp only [zins] at hrun
      split at hrun
      · split at hrun
        · exact (nn hrun).elim
        · rename_i hne
          exact lv_irem hx hb hd hne (go _ _ hrun)
      · exact (nn hrun).elim
    | dup =>
      have hl : len = 1 := hlen
      subst hl
      simp only [zins] at hrun
      split at hrun
      · split at hrun
        · rename_i hc
          exact lv_dup hx hb hd ((zv_cat g _).trans hc) (go _ _ hrun)
        · exact (nn hrun).elim
      · exact (nn hrun).elim
    | dup2 =>
      have hl : len = 1 := hlen
      subst hl
      simp only [zins] at hrun
      split at hrun
      · split at hrun
        · rename_i hc
          exact lv_dup2_11 hx hb hd ((zv_cat g _).trans hc.1) ((zv_cat g _).trans hc.2) (go _ _ hrun)
        · exact (nn hrun).elim
      · exact (nn hrun).elim
    | iconst n =>
      have hl : len = 1 := hlen
      subst hl
      simp only [zins] at hrun
      exact lv_iconst hx hb hd rfl (go _ _ hrun)
    | bipush n =>
      have hl : len = 2 := hlen
      subst hl
      simp only [zins] at hrun
      exact lv_bipush hx hb hd rfl (go _ _ hrun)
    | sipush n =>
      have hl : len = 3 := hlen
      subst hl
      simp only [zins] at hrun
      exact lv_sipush hx hb hd rfl (go _ _ hrun)
    | lconst n =>
      have hl : len = 1 := hlen
      subst hl
      simp only [zins] at hrun
      exact lv_lconst hx hb hd rfl (go _ _ hrun)
    | ldc i =>
      have hl : len = 2 := hlen
      subst hl
      simp only [zins] at hrun
      split at hrun
      · rename_i v hv
        exact lv_ldc hx hb hown (hts _ (zI_spec hv)) hd (go _ _ hrun)
      · exact (nn hrun).elim
    | ldc_w i =>
      have hl : len = 3 := hlen
      subst hl
      simp only [zins] at hrun
      split at hrun
      · rename_i v hv
        exact lv_ldcw hx hb hown (hts _ (zI_spec hv)) hd (go _ _ hrun)
      · exact (nn hrun).elim
    | ldc2_w i =>
      have hl : len = 3 := hlen
      subst hl
      simp only [zins] at hrun
      split at hrun
      · rename_i v hv
        exact lv_ldc2 hx hb hown (hts _ (zL_spec hv)) hd (go _ _ hrun)
      · exact (nn hrun).elim
    | aload_n j =>
      have hl : len = 1 := hlen
      subst hl
      simp only [zins] at hrun
      split at hrun
      · rename_i a ha
        exact lv_aload_n hx hb hd rfl (hL.2.2.1 _ _ ha) (go _ _ hrun)
      · rename_i a ha
        exact lv_aload_n hx hb hd rfl (hL.2.2.1 _ _ ha) (go _ _ hrun)
      · exact (nn hrun).elim
    | iload_n j =>
      have hl : len = 1 := hlen
      subst hl
      simp only [zins] at hrun
      split at hrun
      · rename_i a ha
        exact lv_iload_n hx hb hd rfl (hL.2.2.1 _ _ ha) (go _ _ hrun)
      · exact (nn hrun).elim
    | lload_n j =>
      have hl : len = 1 := hlen
      subst hl
      simp only [zins] at hrun
      split at hrun
      · rename_i a ha
        exact lv_lload_n hx hb hd rfl (hL.2.2.1 _ _ ha) (go _ _ hrun)
      · exact (nn hrun).elim
    | aload j =>
      have hl : len = 2 := hlen
      subst hl
      simp only [zins] at hrun
      split at hrun
      · rename_i a ha
        exact lv_aload hx hb hd (hL.2.2.1 _ _ ha) (go _ _ hrun)
      · exact (nn hrun).elim
    | iload j =>
      have hl : len = 2 := hlen
      subst hl
      simp only [zins] at hrun
      split at hrun
      · rename_i a ha
        exact lv_iload hx hb hd (hL.2.2.1 _ _ ha) (go _ _ hrun)
      · exact (nn hrun).elim
    | lload j =>
      have hl : len = 2 := hlen
      subst hl
      simp only [zins] at hrun
      split at hrun
      · rename_i a ha
        exact lv_lload hx hb hd (hL.2.2.1 _ _ ha) (go _ _ hrun)
      · exact (nn hrun).elim
    | istore_n j =>
      have hl : len = 1 := hlen
      subst hl
      simp only [zins] at hrun
      split at hrun
      · split at hrun
        · rename_i ls' hs'
          exact lv_istore_n hx hb hd rfl (zLs_has hL) (Nat.lt_of_lt_of_le (zset_lt hs') hL.2.2.2.2) rfl (fun la' hla' => goL _ _ _ _ hrun (zLs_set hL hs' rfl hla'))
        · exact (nn hrun).elim
      · exact (nn hrun).elim
    | istore j =>
      have hl : len = 2 := hlen
      subst hl
      simp only [zins] at hrun
      split at hrun
      · split at hrun
        · rename_i ls' hs'
          exact lv_istore hx hb hd (zLs_has hL) (Nat.lt_of_lt_of_le (zset_lt hs') hL.2.2.2.2) rfl (fun la' hla' => goL _ _ _ _ hrun (zLs_set hL hs' rfl hla'))
        · exact (nn hrun).elim
      · exact (nn hrun).elim
    | astore_n j =>
      have hl : len = 1 := hlen
      subst hl
      simp only [zins] at hrun
      split at hrun
      · split at hrun
        · rename_i ls' hs'
          exact lv_astore_n hx hb hd rfl (zLs_has hL) (Nat.lt_of_lt_of_le (zset_lt hs') hL.2.2.2.2) rfl (fun la' hla' => goL _ _ _ _ hrun (zLs_set hL hs' rfl hla'))
        · exact (nn hrun).elim
      · exact (nn hrun).elim
    | astore j =>
      have hl : len = 2 := hlen
      subst hl
      simp only [zins] at hrun
      split at hrun
      · split at hrun
        · rename_i ls' hs'
          exact lv_astore hx hb hd (zLs_has hL) (Nat.lt_of_lt_of_le (zset_lt hs') hL.2.2.2.2) rfl (fun la' hla' => goL _ _ _ _ hrun (zLs_set hL hs' rfl hla'))
        · exact (nn hrun).elim
      · exact (nn hrun).elim
    | lstore_n j =>
      have hl : len = 1 := hlen
      subst hl
      simp only [zins] at hrun
      split at hrun
      · split at hrun
        · rename_i hj
          exact lv_lstore_n hx hb hd rfl (zLs_has hL) hj.2 rfl (fun la' hla' => goL _ _ _ _ hrun (zLs_set2 hL hj.1 hla'))
        · exact (nn hrun).elim
      · exact (nn hrun).elim
    | lstore j =>
      have hl : len = 2 := hlen
      subst hl
      simp only [zins] at hrun
      split at hrun
      · split at hrun
        · rename_i hj
          exact lv_lstore hx hb hd (zLs_has hL) hj.2 rfl (fun la' hla' => goL _ _ _ _ hrun (zLs_set2 hL hj.1 hla'))
        · exact (nn hrun).elim
      · exact (nn hrun).elim
    | iinc j n =>
      have hl : len = 3 := hlen
      subst hl
      simp only [zins] at hrun
      split at hrun
      · rename_i y hy
        split at hrun
        · rename_i ls' hs'
          obtain ⟨q, hq⟩ := List.getElem?_of_mem (zLs_mem (g := g) hy)
          exact lv_iinc hx hb hd (zLs_has hL) hq rfl (Nat.lt_of_lt_of_le (zset_lt hs') hL.2.2.2.2) rfl (fun la' hla' => goL _ _ _ _ hrun (zLs_set hL hs' rfl hla'))
        · exact (nn hrun).elim
      · exact (nn hrun).elim
    | goto off =>
      have hl : len = 3 := hlen
      subst hl
      simp only [zins] at hrun
      exact jp _ _ hrun (fun t ht k => lv_goto hx hb hd (zTg_spec ht) k)
    | ifCond cnd off =>
      have hl : len = 3 := hlen
      subst hl
      simp only [zins] at hrun
      split at hrun
      · split at hrun
        · rename_i t ht
          cases cnd
          · exact lv_if_eq hx hb hd (zTg_spec ht) (fun hq => go _ _ (by rw [if_pos (by simp [zcmp, hq])] at hrun; exact hrun)) (fun hq => go _ _ (by rw [if_neg (by simp [zcmp, hq])] at hrun; exact hrun))
          · exact lv_if_ne hx hb hd (zTg_spec ht) (fun hq => go _ _ (by rw [if_pos (by simp [zcmp, hq])] at hrun; exact hrun)) (fun hq => go _ _ (by rw [if_neg (by simp [zcmp, hq])] at hrun; exact hrun))
          · exact lv_if_lt hx hb hd (zTg_spec ht) (fun hq => go _ _ (by rw [if_pos (by simp [zcmp, hq])] at hrun; exact hrun)) (fun hq => go _ _ (by rw [if_neg (by simp [zcmp, hq])] at hrun; exact hrun))
          · exact lv_if_ge hx hb hd (zTg_spec ht) (fun hq => go _ _ (by rw [if_pos (by simp [zcmp, hq])] at hrun; exact hrun)) (fun hq => go _ _ (by rw [if_neg (by simp [zcmp, hq])] at hrun; exact hrun))
          · exact lv_if_gt hx hb hd (zTg_spec ht) (fun hq => go _ _ (by rw [if_pos (by simp [zcmp, hq])] at hrun; exact hrun)) (fun hq => go _ _ (by rw [if_neg (by simp [zcmp, hq])] at hrun; exact hrun))
          · exact lv_if_le hx hb hd (zTg_spec ht) (fun hq => go _ _ (by rw [if_pos (by simp [zcmp, hq])] at hrun; exact hrun)) (fun hq => go _ _ (by rw [if_neg (by simp [zcmp, hq])] at hrun; exact hrun))
        · exact (nn hrun).elim
      · exact (nn hrun).elim
    | if_icmp cnd off =>
      have hl : len = 3 := hlen
      subst hl
      simp only [zins] at hrun
      split at hrun
      · split at hrun
        · rename_i t ht
          cases cnd
          · exact lv_icmp_eq hx hb hd (zTg_spec ht) (fun hq => go _ _ (by rw [if_pos (by simp [zcmp, hq])] at hrun; exact hrun)) (fun hq => go _ _ (by rw [if_neg (by simp [zcmp, hq])] at hrun; exact hrun))
          · exact lv_icmp_ne hx hb hd (zTg_spec ht) (fun hq => go _ _ (by rw [if_pos (by simp [zcmp, hq])] at hrun; exact hrun)) (fun hq => go _ _ (by rw [if_neg (by simp [zcmp, hq])] at hrun; exact hrun))
          · exact lv_icmp_lt hx hb hd (zTg_spec ht) (fun hq => go _ _ (by rw [if_pos (by simp [zcmp, hq])] at hrun; exact hrun)) (fun hq => go _ _ (by rw [if_neg (by simp [zcmp, hq])] at hrun; exact hrun))
          · exact lv_icmp_ge hx hb hd (zTg_spec ht) (fun hq => go _ _ (by rw [if_pos (by simp [zcmp, hq])] at hrun; exact hrun)) (fun hq => go _ _ (by rw [if_neg (by simp [zcmp, hq])] at hrun; exact hrun))
          · exact lv_icmp_gt hx hb hd (zTg_spec ht) (fun hq => go _ _ (by rw [if_pos (by simp [zcmp, hq])] at hrun; exact hrun)) (fun hq => go _ _ (by rw [if_neg (by simp [zcmp, hq])] at hrun; exact hrun))
          · exact lv_icmp_le hx hb hd (zTg_spec ht) (fun hq => go _ _ (by rw [if_pos (by simp [zcmp, hq])] at hrun; exact hrun)) (fun hq => go _ _ (by rw [if_neg (by simp [zcmp, hq])] at hrun; exact hrun))
        · exact (nn hrun).elim
      · exact (nn hrun).elim
    | tableswitch d lo hi offs =>
      simp only [zins] at hrun
      split at hrun
      · refine jp _ _ hrun (fun t ht k => ?_)
        unfold zsw at ht
        split at ht
        · rename_i hq
          exact lv_tableOut hx hb hd hq (zTg_spec ht) k
        · rename_i hq
          split at ht
          · rename_i off ho
            exact lv_tableIn hx hb hd (fun z => hq (Or.inl z)) (fun z => hq (Or.inr z)) ho (zTg_spec ht) k
          · cases ht
      · exact (nn hrun).elim
    | lookupswitch d ps =>
      simp only [zins] at hrun
      split at hrun
      · split at hrun
        · rename_i hp
          exact jp _ _ hrun (fun t ht k => lv_lookup hx hb hd hp rfl (zTg_spec ht) k)
        · exact (nn hrun).elim
      · exact (nn hrun).elim
    | getfield i =>
      have hl : len = 3 := hlen
      subst hl
      simp only [zins] at hrun
      split at hrun
      · rename_i ci j a st' hF
        split at hrun
        · rename_i hok
          obtain ⟨ha, hka⟩ := zok_iff.mp hok
          obtain ⟨C, T, N, hcl, hj, hlk, hT⟩ := zF_spec hF
          obtain ⟨h11, hck⟩ := zCK_of hcl
          have hN' := zK_obj hka hcl
          have he : (zW g h)[a]? = some (zs g + a, .inr (ci, (List.range (zK a).2).map (zfv g h ci a))) := by rw [zW_get ha, zE_obj hka h11]
          have hv : ((List.range (zK a).2).map (zfv g h ci a))[j]? = some (zfv g h ci a j) := by
            have : j < (zK a).2 := by rw [← hN']; exact hj
            simp [this]
          refine va_get (D := g.1) (ci := ci) (C := C) (T := T) (N := N) hx hb hts hck.1 hown hK hRep.2 a he hcl j hj (hts _ hlk) (fun z h9 => by rw [hT] at h9; exact h9) hv hd ?_
          split at hrun
          · rename_i h0
            rw [show zfv g h ci a j = .int (h.2.1 a j) by unfold zfv; rw [h0]; rfl]
            exact go _ _ hrun
          · rename_i h0
            rw [show zfv g h ci a j = .int (h.2.1 a j) by unfold zfv; rw [h0]; rfl]
            exact go _ _ hrun
          · rename_i h0
            rw [show zfv g h ci a j = .long (h.2.2.2 a j) by unfold zfv; rw [h0]; rfl]
            exact go _ _ hrun
          · rename_i h0
            rw [show zfv g h ci a j = zv g (va_rf (h.2.2.1 a j)) by unfold zfv; rw [h0, zv_rf]; rfl]
            exact go _ _ hrun
          · exact (nn hrun).elim
        · exact (nn hrun).elim
      · exact (nn hrun).elim
    | putfield i =>
      have hl : len = 3 := hlen
      subst hl
      simp only [zins] at hrun
      split at hrun
      · rename_i ci j v a st' hF
        split at hrun
        · rename_i hok
          obtain ⟨hok, hfin⟩ := hok
          obtain ⟨ha, hka⟩ := zok_iff.mp hok
          obtain ⟨C, T, N, hcl, hj, hlk, hT⟩ := zF_spec hF
          obtain ⟨h11, hck⟩ := zCK_of hcl
          have hN' := zK_obj hka hcl
          have hjl : j < (zK a).2 := by rw [← hN']; exact hj
          have he : (zW g h)[a]? = some (zs g + a, .inr (ci, (List.range (zK a).2).map (zfv g h ci a))) := by rw [zW_get ha, zE_obj hka h11]
          have put : ∀ (i' : Nat → Nat → Int32) (r' : Nat → Nat → Option Nat) (l' : Nat → Nat → Int64), narrow (zTy ci j) (zv g v) = zv g v → fits (zTy ci j) (zv g v) = true → zfv g (h.1, i', r', l') ci a j = zv g v → (∀ t, t ≠ j → zfv g (h.1, i', r', l') ci a t = zfv g h ci a t) → (∀ q, q ≠ a → i' q = h.2.1 q ∧ r' q = h.2.2.1 q ∧ l' q = h.2.2.2 q) → zstp (zrun sc n) (zgo k (pc + 3) ls st' (h.1, i', r', l')) = some x → W p l0 e R sS m args below meth c H locs cells slots Q (F0 m pc la ((v :: Value.ref a :: st').map (zv g))) := by
            intro i' r' l' hnw hft h1 h2 h3 hrun'
            have hset : (zW g h).set a (zs g + a, .inr (ci, ((List.range (zK a).2).map (zfv g h ci a)).set j (zv g v))) = zW g (h.1, i', r', l') := by
              rw [zset_obj h1 h2]
              have hE : zE g (h.1, i', r', l') a = .inr (ci, (List.range (zK a).2).map (zfv g (h.1, i', r', l') ci a)) := zE_obj hka h11
              rw [← hE]
              exact zW_set ha rfl (fun q hq => zE_congr (h3 q hq).1 (h3 q hq).2.1 (h3 q hq).2.2)
            rw [hcl] at hfin
            simp only [Option.map_some, Option.some.injEq] at hfin
            rcases hfin with hf | ⟨hf, hnm0, hdecl⟩
            · refine va_put (D := g.1) (ci := ci) (C := C) (T := T) (N := N) hx hb hts hck.1 (zTy ci) hck.2.1 hck.2.2.1 hown hK hRep.2 (zD g h) hS a he hcl j hj (hts _ hlk) (fun z h9 => by rw [hT] at h9; exact h9) hf (hck.2.1 j hj) hnw hft (by simpa using hjl) hd (fun H1 locs1 hP1 _ hS1 => ?_)
              rw [hset] at hP1
              exact zsz (h' := (h.1, i', r', l')) hcz ha rfl hP1 (fun hz1 => goH _ _ _ _ _ _ _ hrun' ⟨hz1, hP1⟩ hS1)
            · refine va_putF (D := g.1) (ci := ci) (C := C) (T := T) (N := N) hx hb hts hck.1 (zTy ci) hck.2.1 hck.2.2.1 hown hK hRep.2 (zD g h) hS a he hcl j hj (hts _ hlk) (fun z h9 => by rw [hT] at h9; exact h9) hf (hnm hnm0) hdecl (hck.2.1 j hj) hnw hft (by simpa using hjl) hd (fun H1 locs1 hP1 _ hS1 => ?_)
              rw [hset] at hP1
              exact zsz (h' := (h.1, i', r', l')) hcz ha rfl hP1 (fun hz1 => goH _ _ _ _ _ _ _ hrun' ⟨hz1, hP1⟩ hS1)
          have same : ∀ t, t ≠ j → ∀ (f : Nat → Nat → Int32) (y : Int32), zU f a j y a t = f a t := fun t ht f y => by simp [zU, ht]
          split at hrun
          · rename_i y h0
            refine put _ _ _ ?_ ?_ ?_ ?_ ?_ hrun
            · rw [zcl_0 h0]; rfl
            · rw [zcl_0 h0]; rfl
            · unfold zfv; rw [h0]; simp [zU, zv]
            · intro t ht; unfold zfv; simp [zU, ht]
            · intro q hq; exact ⟨zU_ne hq, rfl, rfl⟩
          · rename_i y h0
            split at hrun
            · rename_i hy
              refine put _ _ _ ?_ ?_ ?_ ?_ ?_ hrun
              · rw [zcl_3 h0]; rcases hy with rfl | rfl <;> rfl
              · rw [zcl_3 h0]; rcases hy with rfl | rfl <;> rfl
              · unfold zfv; rw [h0]; simp [zU, zv]
              · intro t ht; unfold zfv; simp [zU, ht]
              · intro q hq; exact ⟨zU_ne hq, rfl, rfl⟩
            · exact (nn hrun).elim
          · rename_i y h0
            refine put _ _ _ ?_ ?_ ?_ ?_ ?_ hrun
            · rw [zcl_1 h0]; rfl
            · rw [zcl_1 h0]; rfl
            · unfold zfv; rw [h0]; simp [zU, zv]
            · intro t ht; unfold zfv; simp [zU, ht]
            · intro q hq; exact ⟨rfl, rfl, zU_ne hq⟩
          · rename_i y h0
            refine put _ _ _ ?_ ?_ ?_ ?_ ?_ hrun
            · exact (zcl_2 h0 _).1
            · exact (zcl_2 h0 _).2
            · unfold zfv; rw [h0]; simp [zU, zv, va_rf]
            · intro t ht; unfold zfv; simp [zU, ht]
            · intro q hq; exact ⟨rfl, zU_ne hq, rfl⟩
          · exact (nn hrun).elim
        · exact (nn hrun).elim
      · exact (nn hrun).elim
    | ireturn =>
      have hl : len = 1 := hlen
      subst hl
      simp only [zins] at hrun
      split at hrun
      · split at hrun
        · rename_i hty
          simp only [zstp, Option.some.injEq] at hrun
          subst hrun
          exact W.cs (by simp) (by simp) (hret pc la H locs (Or.inl ⟨_, rfl, hd, hty⟩) hRep hS)
        · exact (nn hrun).elim
      · exact (nn hrun).elim
    | lreturn =>
      have hl : len = 1 := hlen
      subst hl
      simp only [zins] at hrun
      split at hrun
      · split at hrun
        · rename_i hty
          simp only [zstp, Option.some.injEq] at hrun
          subst hrun
          exact W.cs (by simp) (by simp) (hret pc la H locs (Or.inr (Or.inl ⟨_, rfl, hd, hty⟩)) hRep hS)
        · exact (nn hrun).elim
      · exact (nn hrun).elim
    | return_ =>
      have hl : len = 1 := hlen
      subst hl
      simp only [zins] at hrun
      split at hrun
      · split at hrun
        · rename_i hty
          simp only [zstp, Option.some.injEq] at hrun
          subst hrun
          exact W.cs (by simp) (by simp) (hret pc la H locs (Or.inr (Or.inr ⟨rfl, hd, hty⟩)) hRep hS)
        · exact (nn hrun).elim
      · exact (nn hrun).elim
    | arraylength =>
      have hl : len = 1 := hlen
      subst hl
      simp only [zins] at hrun
      split at hrun
      · exact va_slen hx hb hX.1 hbs hbA hS hd (go _ _ hrun)
      · exact (nn hrun).elim
    | iaload =>
      have hl : len = 1 := hlen
      subst hl
      simp only [zins] at hrun
      split at hrun
      · split at hrun
        · rename_i hq
          obtain ⟨ha, hka⟩ := zok_iff.mp hq.1
          exact va_iald (D := g.1) (tys := ztys g) hx hb hK hRep.2 _ 0 (by rw [zW_get ha, zE_100 hka]) rfl hq.2 hd (go _ _ hrun)
        · exact (nn hrun).elim
      · split at hrun
        · rename_i hq
          exact va_sld hx hb hX.1 hbs hbA hS hq hd (go _ _ hrun)
        · exact (nn hrun).elim
      · exact (nn hrun).elim
    | baload =>
      have hl : len = 1 := hlen
      subst hl
      simp only [zins] at hrun
      split at hrun
      · split at hrun
        · rename_i hq
          rcases hq.1 with hq1 | hq1
          · obtain ⟨ha, hka⟩ := zok_iff.mp hq1
            exact va_bald (D := g.1) (tys := ztys g) hx hb hK hRep.2 _ 1 (by rw [zW_get ha, zE_101 hka]) rfl hq.2 hd (go _ _ hrun)
          · obtain ⟨ha, hka⟩ := zok_iff.mp hq1
            exact va_zald (D := g.1) (tys := ztys g) hx hb hK hRep.2 _ 2 (by rw [zW_get ha, zE_102 hka]) rfl hq.2 hd (go _ _ hrun)
        · exact (nn hrun).elim
      · exact (nn hrun).elim
    | aaload =>
      have hl : len = 1 := hlen
      subst hl
      simp only [zins] at hrun
      split at hrun
      · split at hrun
        · rename_i j a st' hq
          rcases hq.1 with hq1 | hq1
          · obtain ⟨ha, hka⟩ := zok_iff.mp hq1
            refine va_aldq (D := g.1) (tys := ztys g) hx hb hK hRep.2 a 3 (by rw [zW_get ha, zE_103 hka]) rfl hq.2 hd ?_
            rw [show va_rf (zqs g h a j.toNatClampNeg) = zv g (va_rf (h.2.2.1 a j.toNatClampNeg)) from (zv_rf g _).symm]
            exact go _ _ hrun
          · obtain ⟨ha, hka⟩ := zok_iff.mp hq1
            refine va_aldq (D := g.1) (tys := ztys g) hx hb hK hRep.2 a 4 (by rw [zW_get ha, zE_104 hka]) rfl hq.2 hd ?_
            rw [show va_rf (zqs g h a j.toNatClampNeg) = zv g (va_rf (h.2.2.1 a j.toNatClampNeg)) from (zv_rf g _).symm]
            exact go _ _ hrun
        · exact (nn hrun).elim
      · exact (nn hrun).elim
    | iastore =>
      have hl : len = 1 := hlen
      subst hl
      simp only [zins] at hrun
      split at hrun
      · split at hrun
        · rename_i y j a st' hq
          obtain ⟨ha, hka⟩ := zok_iff.mp hq.1
          refine va_iast (D := g.1) (tys := ztys g) hx hb hK hRep.2 (zD g h) hS a 0 (by rw [zW_get ha, zE_100 hka]) rfl hq.2 hd (fun H1 locs1 hP1 _ hS1 => ?_)
          have hE : zE g (h.1, zU h.2.1 a j.toNatClampNeg y, h.2.2.1, h.2.2.2) a = .inl (g.2.1, (zK a).2, .inl (upd (h.2.1 a) j.toNatClampNeg y)) := by rw [zE_100 hka, ← zU_upd]
          rw [← hE, zW_set (h := h) (h' := (h.1, zU h.2.1 a j.toNatClampNeg y, h.2.2.1, h.2.2.2)) ha rfl (fun q hq' => zE_congr (zU_ne hq') rfl rfl)] at hP1
          exact zsz (h' := (h.1, zU h.2.1 a j.toNatClampNeg y, h.2.2.1, h.2.2.2)) hcz ha rfl hP1 (fun hz1 => goH _ _ _ _ _ _ _ hrun ⟨hz1, hP1⟩ hS1)
        · exact (nn hrun).elim
      · exact (nn hrun).elim
    | bastore =>
      have hl : len = 1 := hlen
      subst hl
      simp only [zins] at hrun
      split at hrun
      · split at hrun
        · rename_i y j a st' hq
          split at hrun
          · rename_i hq1
            obtain ⟨ha, hka⟩ := zok_iff.mp hq1
            refine va_bast (D := g.1) (tys := ztys g) hx hb hK hRep.2 (zD g h) hS a 1 (by rw [zW_get ha, zE_101 hka]) rfl hq hd (fun H1 locs1 hP1 _ hS1 => ?_)
            have hE : zE g (h.1, zU h.2.1 a j.toNatClampNeg (vp_nar .byte y), h.2.2.1, h.2.2.2) a = .inl (g.2.2.1, (zK a).2, .inl (upd (h.2.1 a) j.toNatClampNeg (vp_nar .byte y))) := by rw [zE_101 hka, ← zU_upd]
            rw [← hE, zW_set (h := h) (h' := (h.1, zU h.2.1 a j.toNatClampNeg (vp_nar .byte y), h.2.2.1, h.2.2.2)) ha rfl (fun q hq' => zE_congr (zU_ne hq') rfl rfl)] at hP1
            exact zsz (h' := (h.1, zU h.2.1 a j.toNatClampNeg (vp_nar .byte y), h.2.2.1, h.2.2.2)) hcz ha rfl hP1 (fun hz1 => goH _ _ _ _ _ _ _ hrun ⟨hz1, hP1⟩ hS1)
          · split at hrun
            · rename_i hq1
              obtain ⟨ha, hka⟩ := zok_iff.mp hq1
              refine va_zast (D := g.1) (tys := ztys g) hx hb hK hRep.2 (zD g h) hS a 2 (by rw [zW_get ha, zE_102 hka]) rfl hq hd (fun H1 locs1 hP1 _ hS1 => ?_)
              have hE : zE g (h.1, zU h.2.1 a j.toNatClampNeg (vp_nar .boolean y), h.2.2.1, h.2.2.2) a = .inl (g.2.2.2.1, (zK a).2, .inl (upd (h.2.1 a) j.toNatClampNeg (vp_nar .boolean y))) := by rw [zE_102 hka, ← zU_upd]
              rw [← hE, zW_set (h := h) (h' := (h.1, zU h.2.1 a j.toNatClampNeg (vp_nar .boolean y), h.2.2.1, h.2.2.2)) ha rfl (fun q hq' => zE_congr (zU_ne hq') rfl rfl)] at hP1
              exact zsz (h' := (h.1, zU h.2.1 a j.toNatClampNeg (vp_nar .boolean y), h.2.2.1, h.2.2.2)) hcz ha rfl hP1 (fun hz1 => goH _ _ _ _ _ _ _ hrun ⟨hz1, hP1⟩ hS1)
            · exact (nn hrun).elim
        · exact (nn hrun).elim
      · exact (nn hrun).elim
    | aastore =>
      have hl : len = 1 := hlen
      subst hl
      simp only [zins] at hrun
      split at hrun
      · split at hrun
        · rename_i y j a st' hq
          have hqs : zqs g (h.1, h.2.1, zU h.2.2.1 a j.toNatClampNeg (some y), h.2.2.2) a = va_up (zqs g h a) j.toNatClampNeg (some (zs g + y)) := by
            funext t
            by_cases ht : t = j.toNatClampNeg <;> simp [zqs, zU, va_up, ht]
          rcases hq.1 with ⟨hq1, hq2⟩ | ⟨hq1, hq2⟩
          · obtain ⟨ha, hka⟩ := zok_iff.mp hq1
            obtain ⟨hy, hky⟩ := zok_iff.mp hq2
            refine va_astq (D := g.1) (tys := ztys g) hx hb hK hRep.2 (zD g h) hS a 3 y 7 (r := (RX7, TX7, 7)) (by rw [zW_get ha, zE_103 hka]) rfl (by rw [zW_get hy, zE_obj hky (by decide)]) rfl hq.2 hd (fun H1 locs1 hP1 _ hS1 => ?_)
            have hE : zE g (h.1, h.2.1, zU h.2.2.1 a j.toNatClampNeg (some y), h.2.2.2) a = .inl (g.2.2.2.2.1, (zK a).2, .inr (.inr (.inr (.inr (va_up (zqs g h a) j.toNatClampNeg (some (zs g + y))))))) := by rw [zE_103 hka, hqs]
            rw [← hE, zW_set (h := h) (h' := (h.1, h.2.1, zU h.2.2.1 a j.toNatClampNeg (some y), h.2.2.2)) ha rfl (fun q hq' => zE_congr rfl (zU_ne hq') rfl)] at hP1
            exact zsz (h' := (h.1, h.2.1, zU h.2.2.1 a j.toNatClampNeg (some y), h.2.2.2)) hcz ha rfl hP1 (fun hz1 => goH _ _ _ _ _ _ _ hrun ⟨hz1, hP1⟩ hS1)
          · obtain ⟨ha, hka⟩ := zok_iff.mp hq1
            obtain ⟨hy, hky⟩ := zok_iff.mp hq2
            refine va_astq (D := g.1) (tys := ztys g) hx hb hK hRep.2 (zD g h) hS a 4 y 3 (r := (RX3, TX3, 3)) (by rw [zW_get ha, zE_104 hka]) rfl (by rw [zW_get hy, zE_obj hky (by decide)]) rfl hq.2 hd (fun H1 locs1 hP1 _ hS1 => ?_)
            have hE : zE g (h.1, h.2.1, zU h.2.2.1 a j.toNatClampNeg (some y), h.2.2.2) a = .inl (g.2.2.2.2.2.1, (zK a).2, .inr (.inr (.inr (.inr (va_up (zqs g h a) j.toNatClampNeg (some (zs g + y))))))) := by rw [zE_104 hka, hqs]
            rw [← hE, zW_set (h := h) (h' := (h.1, h.2.1, zU h.2.2.1 a j.toNatClampNeg (some y), h.2.2.2)) ha rfl (fun q hq' => zE_congr rfl (zU_ne hq') rfl)] at hP1
            exact zsz (h' := (h.1, h.2.1, zU h.2.2.1 a j.toNatClampNeg (some y), h.2.2.2)) hcz ha rfl hP1 (fun hz1 => goH _ _ _ _ _ _ _ hrun ⟨hz1, hP1⟩ hS1)
        · exact (nn hrun).elim
      · exact (nn hrun).elim
    | new i =>
      have hl : len = 3 := hlen
      subst hl
      simp only [zins] at hrun
      split at hrun
      · rename_i ci hC'
        split at hrun
        · rename_i hq
          obtain ⟨r, hr, hlk⟩ := zC_spec hC'
          obtain ⟨h11, hck⟩ := zCK_of hr
          have hN' := zK_obj hq.2 hr
          have hn1 : h.1 + 1 ≤ x.2.1 := zrun_n sc n _ x hrun
          have hn2 := zSL_mono hn1
          have hn3 := zSL_succ h.1
          refine W.newcK hx hb hown (hts _ hlk) (hts _ hck.2.2.2.1) (hts _ hck.2.2.2.2) rfl hd (by omega) (by rw [hN']; omega) (hK.1 ci _ hr).2.1 rfl (fun H1 kC hkC e1 z1 o1 => ?_)
          have key : W p l0 e R sS m args below meth c H1 locs (cells + 1) (slots + (zK h.1).2) Q (F0 m (pc + 3) la ((Value.ref h.1 :: st).map (zv g))) := by
            refine goN _ _ _ _ _ _ hrun (fun _ _ => zRep_push (h := h) hRep rfl (fun q hq' => zE_congr (zCr_ne (by omega)) (zCr_ne (by omega)) (zCr_ne (by omega))) z1 o1 ?_) (zS_push hS z1 o1)
            have hE : zE g (h.1 + 1, zCr h.2.1 h.1 0, zCr h.2.2.1 h.1 none, zCr h.2.2.2 h.1 0) h.1 = .inr (ci, (List.range (zK h.1).2).map (zfv g (h.1 + 1, zCr h.2.1 h.1 0, zCr h.2.2.1 h.1 none, zCr h.2.2.2 h.1 0) ci h.1)) := zE_obj hq.2 h11
            rw [hE]
            refine ⟨_, hr, (u_born (zTy ci) hts hck.1 (hK.1 ci _ hr) hkC e1 hck.2.1).to (fun j hj => ?_)⟩
            rw [hN'] at hj
            rw [show vp_V ((List.range (zK h.1).2).map (zfv g (h.1 + 1, zCr h.2.1 h.1 0, zCr h.2.2.1 h.1 none, zCr h.2.2.2 h.1 0) ci h.1)) j = zfv g (h.1 + 1, zCr h.2.1 h.1 0, zCr h.2.2.1 h.1 none, zCr h.2.2.2 h.1 0) ci h.1 j by simp [vp_V, List.getD_eq_getElem?_getD, hj]]
            exact zdef rfl (zTy_ok ci h11 j) (by simp [zCr]) (by simp [zCr]) (by simp [zCr])
          rw [hN']
          have hsz' : H.size = zs g + h.1 := hRep.1
          rw [hsz']
          exact key
        · exact (nn hrun).elim
      · exact (nn hrun).elim
    | newarray t =>
      have hl : len = 2 := hlen
      subst hl
      simp only [zins] at hrun
      split at hrun
      · split at hrun
        · rename_i y st' hq
          obtain ⟨hy0, hy1, hy2, hq⟩ := hq
          have hn1 : h.1 + 1 ≤ x.2.1 := zrun_n sc n _ x hrun
          have hn2 := zSL_mono hn1
          have hn3 := zSL_succ h.1
          have arr : ∀ (ty : FieldType) (cA : ClassId) (t0 : Nat), newarray.typeOf t = ty → (ztys g)[t0]? = some (cA, ty) → (∀ U : State, ∀ c1, va_RA U c1 ty → U.vm.findClass ("[" ++ ty.toString) = some c1) → Cond.arrayClass ty ∈ zTB → componentBytes ty ≤ 8 → (fun _ : Nat => defaultValue ty) = (fun _ => .int 0) → zE g (h.1 + 1, zCr h.2.1 h.1 0, zCr h.2.2.1 h.1 none, zCr h.2.2.2 h.1 0) h.1 = .inl (cA, (zK h.1).2, .inl (fun _ => 0)) → W p l0 e R sS m args below meth c H locs cells slots Q (F0 m pc la ((Value.int y :: st').map (zv g))) := by
            intro ty cA t0 hty ht hRA hw hcb hdv hE
            subst hty
            refine va_newaK hx hb (hts _ hw) rfl hd rfl hy0 hy1 (by have := Nat.mul_le_mul hy2 hcb; omega) (by omega) (by omega) rfl (fun H1 cA' e1 z1 o1 hAr hNm => ?_)
            have hcA : cA' = cA := Option.some.inj (hNm.symm.trans (hRA sS _ (hK.2 t0 _ ht).2))
            subst hcA
            have key : W p l0 e R sS m args below meth c H1 locs (cells + 1) (slots + (zK h.1).2) Q (F0 m (pc + 2) la ((Value.ref h.1 :: st').map (zv g))) := by
              refine goN _ _ _ _ _ _ hrun (fun _ _ => zRep_push (h := h) hRep rfl (fun q hq' => zE_congr (zCr_ne (by omega)) (zCr_ne (by omega)) (zCr_ne (by omega))) z1 o1 ?_) (zS_push hS z1 o1)
              rw [hE]
              show H1[H.size]? = some (vp_cell _ _)
              rw [vp_cell_i]
              rw [hdv] at e1
              exact e1
            have hsz' : H.size = zs g + h.1 := hRep.1
            rw [hsz']
            exact key
          rcases hq with ⟨rfl, hk⟩ | ⟨rfl, hk⟩ | ⟨rfl, hk⟩
          · exact arr .int _ 0 rfl rfl (fun U c1 q => q) zaci (by decide) rfl (by rw [zE_100 hk]; simp only [zCr_eq])
          · exact arr .byte _ 1 rfl rfl (fun U c1 q => q) zacb (by decide) rfl (by rw [zE_101 hk]; simp only [zCr_eq])
          · exact arr .boolean _ 2 rfl rfl (fun U c1 q => q) zacz (by decide) rfl (by rw [zE_102 hk]; simp only [zCr_eq])
        · exact (nn hrun).elim
      · exact (nn hrun).elim
    | anewarray i =>
      have hl : len = 3 := hlen
      subst hl
      simp only [zins] at hrun
      split at hrun
      · rename_i ci y st' hC'
        split at hrun
        · rename_i hq
          obtain ⟨hy0, hy1, hy2, hq⟩ := hq
          obtain ⟨r, hr, hlk⟩ := zC_spec hC'
          have hn1 : h.1 + 1 ≤ x.2.1 := zrun_n sc n _ x hrun
          have hn2 := zSL_mono hn1
          have hn3 := zSL_succ h.1
          have arr : ∀ (C : String) (cA : ClassId) (t0 : Nat), r.1 = C → (ztys g)[t0]? = some (cA, .object C) → va_AO C sS → zE g (h.1 + 1, zCr h.2.1 h.1 0, zCr h.2.2.1 h.1 none, zCr h.2.2.2 h.1 0) h.1 = .inl (cA, (zK h.1).2, .inr (.inr (.inr (.inr (fun _ => none))))) → W p l0 e R sS m args below meth c H locs cells slots Q (F0 m pc la ((Value.int y :: st').map (zv g))) := by
            intro C cA t0 hC1 ht hAO hE
            subst hC1
            refine W.anew hx hb hown (hts _ hlk) (va_AO.use hAO) rfl hd rfl hy0 (by rw [hy1]; omega) (by omega) (by rw [hy1]; omega) (fun cA' kA comp f1 f2 f3 f4 => ?_)
            obtain ⟨kA2, comp2, g1, g2, g3, g4⟩ := (hK.2 t0 _ ht).2
            have hcA : cA' = cA := Option.some.inj (f1.symm.trans g4)
            subst hcA
            rw [hy1]
            have z1 : (H.push ({ cls := cA', slots := Array.replicate (zK h.1).2 .null, vm := .none } : Cell)).size = H.size + 1 := Array.size_push _
            have o1 : ∀ q : Nat, q < H.size → (H.push ({ cls := cA', slots := Array.replicate (zK h.1).2 .null, vm := .none } : Cell))[q]? = H[q]? := fun q hq => by rw [Array.getElem?_push, if_neg (Nat.ne_of_lt hq)]
            have e1 : (H.push ({ cls := cA', slots := Array.replicate (zK h.1).2 .null, vm := .none } : Cell))[H.size]? = some (arrV cA' (zK h.1).2 (fun _ => .null)) := by rw [Array.getElem?_push_size, ← arrV_new]
            generalize H.push ({ cls := cA', slots := Array.replicate (zK h.1).2 .null, vm := .none } : Cell) = H1 at z1 o1 e1 ⊢
            have key : W p l0 e R sS m args below meth c H1 locs (cells + 1) (slots + (zK h.1).2) Q (F0 m (pc + 3) la ((Value.ref h.1 :: st').map (zv g))) := by
              refine goN _ _ _ _ _ _ hrun (fun _ _ => zRep_push (h := h) hRep rfl (fun q hq' => zE_congr (zCr_ne (by omega)) (zCr_ne (by omega)) (zCr_ne (by omega))) z1 o1 ?_) (zS_push hS z1 o1)
              rw [hE]
              show H1[H.size]? = some (vp_cell _ _)
              rw [vp_cell_q]
              exact e1
            have hsz' : H.size = zs g + h.1 := hRep.1
            rw [hsz']
            exact key
          have hqs : zqs g (h.1 + 1, zCr h.2.1 h.1 0, zCr h.2.2.1 h.1 none, zCr h.2.2.2 h.1 0) h.1 = fun _ => none := by funext t; simp [zqs, zCr]
          rcases hq with ⟨rfl, hk⟩ | ⟨rfl, hk⟩
          · exact arr "HarpFences$Stand" _ 3 (by cases hr; rfl) rfl hN.2.1 (by rw [zE_103 hk, hqs])
          · exact arr "HarpFences$Image" _ 4 (by cases hr; rfl) rfl hN.2.2 (by rw [zE_104 hk, hqs])
        · exact (nn hrun).elim
      · exact (nn hrun).elim
    | invokevirtual i =>
      have hl : len = 3 := hlen
      subst hl
      simp only [zins] at hrun
      split at hrun
      · rename_i k' na hmr
        obtain ⟨N, hNS, hlk, hinst, hsel, h11⟩ := zM0 hmr
        split at hrun
        · rename_i a rest hdr
          split at hrun
          case isFalse => exact (nn hrun).elim
          rename_i hq
          obtain ⟨hq, hlen0⟩ := hq
          have hlen' : ((st.take na).reverse.map (zv g)).length = na := by rw [List.length_map, List.length_reverse]; exact hlen0
          rw [hNS.1] at hq
          simp only [Option.map_some, Option.some.injEq] at hq
          obtain ⟨ha, hka⟩ := zok_iff.mp hq
          have hrecv : ∃ cellB : Cell, H[zs g + a]? = some cellB ∧ cellB.vm.isStatics = false ∧ sS.vm.findClass N.1.cls = some cellB.cls := by
            obtain ⟨r, hr, hrn⟩ := zCl_nm h11
            have := va_recv hK hRep.2 (q0 := a) hr (by rw [zW_get ha, zE_obj hka h11])
            rw [hrn, ← hNS.2.2.2.2.2.2.2] at this
            exact this
          obtain ⟨hzM, hk185, hcd, hini, hpl, hne, hpar, hcls⟩ := hNS
          unfold zcall at hrun
          rw [hzM] at hrun
          dsimp only at hrun
          split at hrun
          case isFalse => exact (nn hrun).elim
          rename_i hq
          obtain ⟨hq1, hq2, hq3, hq4, hq5⟩ := hq
          simp only [zstp] at hrun
          obtain ⟨y1, h1, h2⟩ := Option.bind_eq_some_iff.mp hrun
          have hmet := zmet (l0 := l0) g hk185 hzM hpl hcls hq5 hq4 (ih _ _ h1)
          have hn1 : h.1 ≤ y1.2.1 := zrun_n sc n _ _ h1
          have hn2 : y1.2.1 ≤ x.2.1 := zrun_n sc n _ _ h2
          have hs1 := zSL_mono hn1
          have hs2 := zSL_mono hn2
          have hrk := zrun_k sc n _ _ N h1 hzM
          have hfb : FrameBlind (zPc g sc (Value.ref a :: (st.take na).reverse) h) := fun a U gg mk q => ⟨q.1, q.2.1, va_K.moved (u := U) (U := U.calling gg mk a) (Vm.Alike.refl U.vm) q.2.2.1, zNw_vm (s := U) (U := U.calling gg mk a) rfl q.2.2.2.1, va_X.moved (u := U) (U := U.calling gg mk a) (Vm.Alike.refl U.vm) q.2.2.2.2.1, q.2.2.2.2.2⟩
          have hpre : ∀ U : State, U.heap = H → sS.WarmedH U.vm → zPc g sc (Value.ref a :: (st.take na).reverse) h ((Value.ref a :: (st.take na).reverse).map (zv g)).toArray U := fun U hU hW => ⟨rfl, by rw [hU]; exact hRep, va_K.moved hW.alike hK, zNw_warm hW hN, by rw [hU]; exact (va_X.moved hW.alike hX.1).kept (hS.2.1 _ hbs hbA), hX.2⟩
          have hroom : (zrm N (y1.2.1 - h.1) (zSL y1.2.1 - zSL h.1)).frames + 1 ≤ R.frames ∧ 8 + (N.2.2.1 + 11) + (zrm N (y1.2.1 - h.1) (zSL y1.2.1 - zSL h.1)).locals ≤ R.locals := ⟨Nat.le_trans hq1 hfr, Nat.le_trans hq2 hlo⟩
          have hW8 : 2 * (F0 m pc la (st.map (zv g))).monitorRoom + ((rest.map (zv g)).map fun v => v.category).sum ≤ 8 := by
            rw [zcat_map]
            show 2 * 0 + _ ≤ 8
            omega
          have hfit : cells + (y1.2.1 - h.1) ≤ R.cells ∧ slots + (zSL y1.2.1 - zSL h.1) ≤ R.slots := ⟨by omega, by omega⟩
          have after : ∀ (t : State) (H1 : Heap) (locs1 : List Loc), t.heap = H1 → zB g y1.2 () t → va_S (zA g) sS.heap H1 locs1 → W p l0 e R sS m args below meth c H1 locs1 (cells + (y1.2.1 - h.1)) (slots + (zSL y1.2.1 - zSL h.1)) Q (F0 m (pc + 3) la ((if N.2.2.2.1 = none then rest else y1.1 :: rest).map (zv g))) := by
            intro t H1 locs1 ht hB hS1
            have hB : zRep g y1.2 t.heap := hB
            rw [ht] at hB
            refine ih _ _ h2 M g H1 locs1 (cells + (y1.2.1 - h.1)) (slots + (zSL y1.2.1 - zSL h.1)) Q la hM hC hB hS1 hL (by dsimp only; omega) (by dsimp only; omega) (by dsimp only; omega) (fun pcR lsR H2 locs2 q1 q2 q3 => W.cs ?_ ?_ (hret pcR lsR H2 locs2 q1 q2 q3))
            · dsimp only; omega
            · dsimp only; omega
          have hrun2 : va_Run p l0 e R sS m args below meth c H locs cells slots (y1.2.1 - h.1) (zSL y1.2.1 - zSL h.1) (F0 m pc la (st.map (zv g))) (rest.map (zv g)) (zQc g y1 (Value.ref (zs g + a) :: (st.take na).reverse.map (zv g)).toArray) (zA g) :=
            va_runV (C := N.1.cls) ⟨hx, hb, hml, hown, hts⟩ hmet (cwV na hts (fun w hw => by
              rcases List.mem_append.mp hw with hw | hw
              · refine ⟨?_, ?_⟩
                · simp only [List.mem_cons, List.not_mem_nil, or_false] at hw
                  rcases hw with rfl | rfl | rfl | rfl
                  · exact hlk
                  · exact hinst
                  · exact hsel
                  · exact hini
                · simp only [List.mem_cons, List.not_mem_nil, or_false] at hw
                  rcases hw with rfl | rfl | rfl | rfl
                  · exact good_of_word (zgood _ hlk)
                  · exact good_of_word (zgood _ hinst)
                  · exact good_of_word (zgood _ hsel)
                  · exact good_of_word (zgood _ hini)
              · exact zgoodIn hcd w hw) rfl rfl rfl ⟨rfl, hne.1, hne.2, hpar⟩ hroom) ⟨hfb, hrecv, hpre⟩ rfl hlen' hL.1 (zSpl g hdr) hW8 hd hfit
          obtain ⟨v, hy⟩ := y1
          rcases hrk with ⟨r, hr1, hr2⟩ | ⟨r, hr1, hr2⟩ | ⟨hr1, hr2⟩
          · dsimp only at hr1
            subst hr1
            refine va_calli (a := #[]) (post := fun r' (_ : Unit) => r' = r) hrun2 hS (fun q _ h => h) (fun q h => h) (fun r' u t H1 locs1 ht hvm hw hB hz1 hk1 hS1 => ?_)
            subst hw
            have := after t H1 locs1 ht hB hS1
            rw [if_neg hr2] at this
            exact this
          · dsimp only at hr1
            subst hr1
            refine va_calll (a := #[]) (post := fun r' (_ : Unit) => r' = r) hrun2 hS (fun q _ h => h) (fun q h => h) (fun r' u t H1 locs1 ht hvm hw hB hz1 hk1 hS1 => ?_)
            subst hw
            have := after t H1 locs1 ht hB hS1
            rw [if_neg hr2] at this
            exact this
          · dsimp only at hr1
            subst hr1
            refine va_callv (a := #[]) (post := fun (_ : Unit) => True) hrun2 hS (fun q _ h => h) (fun q h => h) (fun u t H1 locs1 ht hvm hw hB hz1 hk1 hS1 => ?_)
            have := after t H1 locs1 ht hB hS1
            rw [if_pos hr2] at this
            exact this
        · exact (nn hrun).elim
      · exact (nn hrun).elim
    | invokespecial i =>
      have hl : len = 3 := hlen
      subst hl
      simp only [zins] at hrun
      split at hrun
      · rename_i k' na hmr
        split at hrun
        · split at hrun
          · rename_i a rest hq
            refine W.objInit hx hb hown (hts _ (zMk hmr (fun q hq => hq))) (hts _ zoi1) (hts _ zoi2) rfl (hL.1.trans hml.symm) rfl hd (by omega) ?_ (go _ _ hrun)
            rw [zcat_map]
            show 2 * 0 + _ + 12 ≤ _
            omega
          · exact (nn hrun).elim
        · exact (nn hrun).elim
      · rename_i k' na hmr
        obtain ⟨N, hNS, hlk, hinst, hinn⟩ := zM2 hmr
        split at hrun
        · rename_i a rest hdr
          split at hrun
          case isFalse => exact (nn hrun).elim
          rename_i hlen0
          have hlen' : ((st.take na).reverse.map (zv g)).length = na := by rw [List.length_map, List.length_reverse]; exact hlen0
          obtain ⟨hzM, hk185, hcd, hini, hpl, hne, hpar, hcls⟩ := hNS
          unfold zcall at hrun
          rw [hzM] at hrun
          dsimp only at hrun
          split at hrun
          case isFalse => exact (nn hrun).elim
          rename_i hq
          obtain ⟨hq1, hq2, hq3, hq4, hq5⟩ := hq
          simp only [zstp] at hrun
          obtain ⟨y1, h1, h2⟩ := Option.bind_eq_some_iff.mp hrun
          have hmet := zmet (l0 := l0) g hk185 hzM hpl hcls hq5 hq4 (ih _ _ h1)
          have hn1 : h.1 ≤ y1.2.1 := zrun_n sc n _ _ h1
          have hn2 : y1.2.1 ≤ x.2.1 := zrun_n sc n _ _ h2
          have hs1 := zSL_mono hn1
          have hs2 := zSL_mono hn2
          have hrk := zrun_k sc n _ _ N h1 hzM
          have hfb : FrameBlind (zPc g sc (Value.ref a :: (st.take na).reverse) h) := fun a U gg mk q => ⟨q.1, q.2.1, va_K.moved (u := U) (U := U.calling gg mk a) (Vm.Alike.refl U.vm) q.2.2.1, zNw_vm (s := U) (U := U.calling gg mk a) rfl q.2.2.2.1, va_X.moved (u := U) (U := U.calling gg mk a) (Vm.Alike.refl U.vm) q.2.2.2.2.1, q.2.2.2.2.2⟩
          have hpre : ∀ U : State, U.heap = H → sS.WarmedH U.vm → zPc g sc (Value.ref a :: (st.take na).reverse) h ((Value.ref a :: (st.take na).reverse).map (zv g)).toArray U := fun U hU hW => ⟨rfl, by rw [hU]; exact hRep, va_K.moved hW.alike hK, zNw_warm hW hN, by rw [hU]; exact (va_X.moved hW.alike hX.1).kept (hS.2.1 _ hbs hbA), hX.2⟩
          have hroom : (zrm N (y1.2.1 - h.1) (zSL y1.2.1 - zSL h.1)).frames + 1 ≤ R.frames ∧ 8 + (N.2.2.1 + 11) + (zrm N (y1.2.1 - h.1) (zSL y1.2.1 - zSL h.1)).locals ≤ R.locals := ⟨Nat.le_trans hq1 hfr, Nat.le_trans hq2 hlo⟩
          have hW8 : 2 * (F0 m pc la (st.map (zv g))).monitorRoom + ((rest.map (zv g)).map fun v => v.category).sum ≤ 8 := by
            rw [zcat_map]
            show 2 * 0 + _ ≤ 8
            omega
          have hfit : cells + (y1.2.1 - h.1) ≤ R.cells ∧ slots + (zSL y1.2.1 - zSL h.1) ≤ R.slots := ⟨by omega, by omega⟩
          have after : ∀ (t : State) (H1 : Heap) (locs1 : List Loc), t.heap = H1 → zB g y1.2 () t → va_S (zA g) sS.heap H1 locs1 → W p l0 e R sS m args below meth c H1 locs1 (cells + (y1.2.1 - h.1)) (slots + (zSL y1.2.1 - zSL h.1)) Q (F0 m (pc + 3) la ((if N.2.2.2.1 = none then rest else y1.1 :: rest).map (zv g))) := by
            intro t H1 locs1 ht hB hS1
            have hB : zRep g y1.2 t.heap := hB
            rw [ht] at hB
            refine ih _ _ h2 M g H1 locs1 (cells + (y1.2.1 - h.1)) (slots + (zSL y1.2.1 - zSL h.1)) Q la hM hC hB hS1 hL (by dsimp only; omega) (by dsimp only; omega) (by dsimp only; omega) (fun pcR lsR H2 locs2 q1 q2 q3 => W.cs ?_ ?_ (hret pcR lsR H2 locs2 q1 q2 q3))
            · dsimp only; omega
            · dsimp only; omega
          obtain ⟨hinit, hnone⟩ := hinn
          have hrun2 : va_Run p l0 e R sS m args below meth c H locs cells slots (y1.2.1 - h.1) (zSL y1.2.1 - zSL h.1) (F0 m pc la (st.map (zv g))) (rest.map (zv g)) (zQc g y1 (Value.ref (zs g + a) :: (st.take na).reverse.map (zv g)).toArray) (zA g) :=
            va_runI ⟨hx, hb, hml, hown, hts⟩ hmet ⟨callB_of na hts (zgoodIn hcd) (by unfold zws; rw [hnone]) rfl rfl (hts _ hini) (hts _ hlk) ⟨hne.1, hne.2, hpar⟩ hroom, hinit, hts _ hinst⟩ ⟨hfb, hpre⟩ rfl hlen' hL.1 (zSpl g hdr) hW8 hd hfit
          obtain ⟨v, hy⟩ := y1
          rcases hrk with ⟨r, hr1, hr2⟩ | ⟨r, hr1, hr2⟩ | ⟨hr1, hr2⟩
          · dsimp only at hr1
            subst hr1
            refine va_calli (a := #[]) (post := fun r' (_ : Unit) => r' = r) hrun2 hS (fun q _ h => h) (fun q h => h) (fun r' u t H1 locs1 ht hvm hw hB hz1 hk1 hS1 => ?_)
            subst hw
            have := after t H1 locs1 ht hB hS1
            rw [if_neg hr2] at this
            exact this
          · dsimp only at hr1
            subst hr1
            refine va_calll (a := #[]) (post := fun r' (_ : Unit) => r' = r) hrun2 hS (fun q _ h => h) (fun q h => h) (fun r' u t H1 locs1 ht hvm hw hB hz1 hk1 hS1 => ?_)
            subst hw
            have := after t H1 locs1 ht hB hS1
            rw [if_neg hr2] at this
            exact this
          · dsimp only at hr1
            subst hr1
            refine va_callv (a := #[]) (post := fun (_ : Unit) => True) hrun2 hS (fun q _ h => h) (fun q h => h) (fun u t H1 locs1 ht hvm hw hB hz1 hk1 hS1 => ?_)
            have := after t H1 locs1 ht hB hS1
            rw [if_pos hr2] at this
            exact this
        · exact (nn hrun).elim
      · rename_i k' na hmr
        obtain ⟨N, hNS, hlk, hinst, hinn⟩ := zM3 hmr
        split at hrun
        · rename_i a rest hdr
          split at hrun
          case isFalse => exact (nn hrun).elim
          rename_i hlen0
          have hlen' : ((st.take na).reverse.map (zv g)).length = na := by rw [List.length_map, List.length_reverse]; exact hlen0
          obtain ⟨hzM, hk185, hcd, hini, hpl, hne, hpar, hcls⟩ := hNS
          unfold zcall at hrun
          rw [hzM] at hrun
          dsimp only at hrun
          split at hrun
          case isFalse => exact (nn hrun).elim
          rename_i hq
          obtain ⟨hq1, hq2, hq3, hq4, hq5⟩ := hq
          simp only [zstp] at hrun
          obtain ⟨y1, h1, h2⟩ := Option.bind_eq_some_iff.mp hrun
          have hmet := zmet (l0 := l0) g hk185 hzM hpl hcls hq5 hq4 (ih _ _ h1)
          have hn1 : h.1 ≤ y1.2.1 := zrun_n sc n _ _ h1
          have hn2 : y1.2.1 ≤ x.2.1 := zrun_n sc n _ _ h2
          have hs1 := zSL_mono hn1
          have hs2 := zSL_mono hn2
          have hrk := zrun_k sc n _ _ N h1 hzM
          have hfb : FrameBlind (zPc g sc (Value.ref a :: (st.take na).reverse) h) := fun a U gg mk q => ⟨q.1, q.2.1, va_K.moved (u := U) (U := U.calling gg mk a) (Vm.Alike.refl U.vm) q.2.2.1, zNw_vm (s := U) (U := U.calling gg mk a) rfl q.2.2.2.1, va_X.moved (u := U) (U := U.calling gg mk a) (Vm.Alike.refl U.vm) q.2.2.2.2.1, q.2.2.2.2.2⟩
          have hpre : ∀ U : State, U.heap = H → sS.WarmedH U.vm → zPc g sc (Value.ref a :: (st.take na).reverse) h ((Value.ref a :: (st.take na).reverse).map (zv g)).toArray U := fun U hU hW => ⟨rfl, by rw [hU]; exact hRep, va_K.moved hW.alike hK, zNw_warm hW hN, by rw [hU]; exact (va_X.moved hW.alike hX.1).kept (hS.2.1 _ hbs hbA), hX.2⟩
          have hroom : (zrm N (y1.2.1 - h.1) (zSL y1.2.1 - zSL h.1)).frames + 1 ≤ R.frames ∧ 8 + (N.2.2.1 + 11) + (zrm N (y1.2.1 - h.1) (zSL y1.2.1 - zSL h.1)).locals ≤ R.locals := ⟨Nat.le_trans hq1 hfr, Nat.le_trans hq2 hlo⟩
          have hW8 : 2 * (F0 m pc la (st.map (zv g))).monitorRoom + ((rest.map (zv g)).map fun v => v.category).sum ≤ 8 := by
            rw [zcat_map]
            show 2 * 0 + _ ≤ 8
            omega
          have hfit : cells + (y1.2.1 - h.1) ≤ R.cells ∧ slots + (zSL y1.2.1 - zSL h.1) ≤ R.slots := ⟨by omega, by omega⟩
          have after : ∀ (t : State) (H1 : Heap) (locs1 : List Loc), t.heap = H1 → zB g y1.2 () t → va_S (zA g) sS.heap H1 locs1 → W p l0 e R sS m args below meth c H1 locs1 (cells + (y1.2.1 - h.1)) (slots + (zSL y1.2.1 - zSL h.1)) Q (F0 m (pc + 3) la ((if N.2.2.2.1 = none then rest else y1.1 :: rest).map (zv g))) := by
            intro t H1 locs1 ht hB hS1
            have hB : zRep g y1.2 t.heap := hB
            rw [ht] at hB
            refine ih _ _ h2 M g H1 locs1 (cells + (y1.2.1 - h.1)) (slots + (zSL y1.2.1 - zSL h.1)) Q la hM hC hB hS1 hL (by dsimp only; omega) (by dsimp only; omega) (by dsimp only; omega) (fun pcR lsR H2 locs2 q1 q2 q3 => W.cs ?_ ?_ (hret pcR lsR H2 locs2 q1 q2 q3))
            · dsimp only; omega
            · dsimp only; omega
          obtain ⟨hinit, hnone⟩ := hinn
          have hrun2 : va_Run p l0 e R sS m args below meth c H locs cells slots (y1.2.1 - h.1) (zSL y1.2.1 - zSL h.1) (F0 m pc la (st.map (zv g))) (rest.map (zv g)) (zQc g y1 (Value.ref (zs g + a) :: (st.take na).reverse.map (zv g)).toArray) (zA g) :=
            va_runIN ⟨hx, hb, hml, hown, hts⟩ hmet ⟨va_cnB na hts (zgoodIn hcd) (by unfold zws; rw [hnone]) rfl rfl (hN.1 _ hlk) (hts _ hini) ⟨hne.1, hne.2, hpar⟩ hroom, hinit, hts _ hinst⟩ ⟨hfb, hpre⟩ rfl hlen' hL.1 (zSpl g hdr) hW8 hd hfit
          obtain ⟨v, hy⟩ := y1
          rcases hrk with ⟨r, hr1, hr2⟩ | ⟨r, hr1, hr2⟩ | ⟨hr1, hr2⟩
          · dsimp only at hr1
            subst hr1
            refine va_calli (a := #[]) (post := fun r' (_ : Unit) => r' = r) hrun2 hS (fun q _ h => h) (fun q h => h) (fun r' u t H1 locs1 ht hvm hw hB hz1 hk1 hS1 => ?_)
            subst hw
            have := after t H1 locs1 ht hB hS1
            rw [if_neg hr2] at this
            exact this
          · dsimp only at hr1
            subst hr1
            refine va_calll (a := #[]) (post := fun r' (_ : Unit) => r' = r) hrun2 hS (fun q _ h => h) (fun q h => h) (fun r' u t H1 locs1 ht hvm hw hB hz1 hk1 hS1 => ?_)
            subst hw
            have := after t H1 locs1 ht hB hS1
            rw [if_neg hr2] at this
            exact this
          · dsimp only at hr1
            subst hr1
            refine va_callv (a := #[]) (post := fun (_ : Unit) => True) hrun2 hS (fun q _ h => h) (fun q h => h) (fun u t H1 locs1 ht hvm hw hB hz1 hk1 hS1 => ?_)
            have := after t H1 locs1 ht hB hS1
            rw [if_pos hr2] at this
            exact this
        · exact (nn hrun).elim
      · exact (nn hrun).elim
    | invokestatic i =>
      have hl : len = 3 := hlen
      subst hl
      simp only [zins] at hrun
      split at hrun
      · rename_i k' na hmr
        split at hrun
        · split at hrun
          · rename_i hq
            exact va_mmax hx hb (hml.trans hL.1.symm) hown (hts _ (zMk hmr (fun q hq => hq))) (hts _ zmx1) (hts _ zmi) (hts _ zmx2) (by omega) (by rw [zcat_map]; omega) (by omega) (by omega) hd (go _ _ hrun)
          · exact (nn hrun).elim
        · exact (nn hrun).elim
      · rename_i k' na hmr
        split at hrun
        · split at hrun
          · rename_i hq
            exact va_mmin hx hb (hml.trans hL.1.symm) hown (hts _ (zMk hmr (fun q hq => hq))) (hts _ zmn1) (hts _ zmi) (hts _ zmn2) (by omega) (by rw [zcat_map]; omega) (by omega) (by omega) hd (go _ _ hrun)
          · exact (nn hrun).elim
        · exact (nn hrun).elim
      · rename_i k' na hmr
        split at hrun
        · split at hrun
          · rename_i hq
            exact va_mabs hx hb (hml.trans hL.1.symm) hown (hts _ (zMk hmr (fun q hq => hq))) (hts _ zma1) (hts _ zmi) (hts _ zma2) (by omega) (by rw [zcat_map]; omega) (by omega) (by omega) hd (go _ _ hrun)
          · exact (nn hrun).elim
        · exact (nn hrun).elim
      · rename_i k' na hmr
        split at hrun
        · split at hrun
          · rename_i cn dp a sp a0 rest hq
            obtain ⟨⟨hq1, hq2, hq3⟩, ho1, ho0, g1, g2, g3, g4, g5⟩ := hq
            obtain ⟨ha, hka⟩ := zok_iff.mp ho1
            obtain ⟨ha0, hka0⟩ := zok_iff.mp ho0
            refine va_copyi (D := g.1) (tys := ztys g) hx hb (hml.trans hL.1.symm) hown (hts _ (zMk hmr (fun q hq => hq))) (hts _ zac1) (hts _ zac2) (hts _ zac3) hK hRep.2 (zD g h) hS a0 a 0 0 (by rw [zW_get ha0, zE_100 hka0]) (by rw [zW_get ha, zE_100 hka]) rfl rfl rfl g1 g2 g3 g4 g5 (fun _ _ => rfl) (by omega) ?_ hd (fun H1 locs1 hP1 _ hS1 => ?_)
            · rw [zcat_map, show nativeFrameWords "java/lang/System" "arraycopy" 5 + 11 = 18 from by decide +kernel]
              omega
            · have hE : zE g (h.1, zCp h.2.1 a0 a sp.toNatClampNeg dp.toNatClampNeg cn.toNatClampNeg, h.2.2.1, h.2.2.2) a = .inl (g.2.1, (zK a).2, .inl (va_cpy (h.2.1 a0) (h.2.1 a) sp.toNatClampNeg dp.toNatClampNeg cn.toNatClampNeg)) := by rw [zE_100 hka]; dsimp only; rw [zCp_eq]
              rw [← hE, zW_set (h := h) (h' := (h.1, zCp h.2.1 a0 a sp.toNatClampNeg dp.toNatClampNeg cn.toNatClampNeg, h.2.2.1, h.2.2.2)) ha rfl (fun q hq' => zE_congr (zCp_ne hq') rfl rfl)] at hP1
              exact zsz (h' := (h.1, zCp h.2.1 a0 a sp.toNatClampNeg dp.toNatClampNeg cn.toNatClampNeg, h.2.2.1, h.2.2.2)) hcz ha rfl hP1 (fun hz1 => goH _ _ _ _ _ _ _ hrun ⟨hz1, hP1⟩ hS1)
          · exact (nn hrun).elim
        · exact (nn hrun).elim
      · rename_i k' na hmr
        obtain ⟨N, hNS, hlk, hstt⟩ := zM1 hmr
        split at hrun
        · rename_i hlen0
          have hlen' : ((st.take na).reverse.map (zv g)).length = na := by rw [List.length_map, List.length_reverse]; exact hlen0
          have hspl : st.map (zv g) = ((st.take na).reverse.map (zv g)).reverse ++ (st.drop na).map (zv g) := by
            rw [← List.map_reverse, List.reverse_reverse, ← List.map_append, List.take_append_drop]
          obtain ⟨hzM, hk185, hcd, hini, hpl, hne, hpar, hcls⟩ := hNS
          unfold zcall at hrun
          rw [hzM] at hrun
          dsimp only at hrun
          split at hrun
          case isFalse => exact (nn hrun).elim
          rename_i hq
          obtain ⟨hq1, hq2, hq3, hq4, hq5⟩ := hq
          simp only [zstp] at hrun
          obtain ⟨y1, h1, h2⟩ := Option.bind_eq_some_iff.mp hrun
          have hmet := zmet (l0 := l0) g hk185 hzM hpl hcls hq5 hq4 (ih _ _ h1)
          have hn1 : h.1 ≤ y1.2.1 := zrun_n sc n _ _ h1
          have hn2 : y1.2.1 ≤ x.2.1 := zrun_n sc n _ _ h2
          have hs1 := zSL_mono hn1
          have hs2 := zSL_mono hn2
          have hrk := zrun_k sc n _ _ N h1 hzM
          have hfb : FrameBlind (zPc g sc ((st.take na).reverse) h) := fun a U gg mk q => ⟨q.1, q.2.1, va_K.moved (u := U) (U := U.calling gg mk a) (Vm.Alike.refl U.vm) q.2.2.1, zNw_vm (s := U) (U := U.calling gg mk a) rfl q.2.2.2.1, va_X.moved (u := U) (U := U.calling gg mk a) (Vm.Alike.refl U.vm) q.2.2.2.2.1, q.2.2.2.2.2⟩
          have hpre : ∀ U : State, U.heap = H → sS.WarmedH U.vm → zPc g sc ((st.take na).reverse) h (((st.take na).reverse).map (zv g)).toArray U := fun U hU hW => ⟨rfl, by rw [hU]; exact hRep, va_K.moved hW.alike hK, zNw_warm hW hN, by rw [hU]; exact (va_X.moved hW.alike hX.1).kept (hS.2.1 _ hbs hbA), hX.2⟩
          have hroom : (zrm N (y1.2.1 - h.1) (zSL y1.2.1 - zSL h.1)).frames + 1 ≤ R.frames ∧ 8 + (N.2.2.1 + 11) + (zrm N (y1.2.1 - h.1) (zSL y1.2.1 - zSL h.1)).locals ≤ R.locals := ⟨Nat.le_trans hq1 hfr, Nat.le_trans hq2 hlo⟩
          have hW8 : 2 * (F0 m pc la (st.map (zv g))).monitorRoom + (((st.drop na).map (zv g)).map fun v => v.category).sum ≤ 8 := by
            rw [zcat_map]
            show 2 * 0 + _ ≤ 8
            omega
          have hfit : cells + (y1.2.1 - h.1) ≤ R.cells ∧ slots + (zSL y1.2.1 - zSL h.1) ≤ R.slots := ⟨by omega, by omega⟩
          have after : ∀ (t : State) (H1 : Heap) (locs1 : List Loc), t.heap = H1 → zB g y1.2 () t → va_S (zA g) sS.heap H1 locs1 → W p l0 e R sS m args below meth c H1 locs1 (cells + (y1.2.1 - h.1)) (slots + (zSL y1.2.1 - zSL h.1)) Q (F0 m (pc + 3) la ((if N.2.2.2.1 = none then (st.drop na) else y1.1 :: (st.drop na)).map (zv g))) := by
            intro t H1 locs1 ht hB hS1
            have hB : zRep g y1.2 t.heap := hB
            rw [ht] at hB
            refine ih _ _ h2 M g H1 locs1 (cells + (y1.2.1 - h.1)) (slots + (zSL y1.2.1 - zSL h.1)) Q la hM hC hB hS1 hL (by dsimp only; omega) (by dsimp only; omega) (by dsimp only; omega) (fun pcR lsR H2 locs2 q1 q2 q3 => W.cs ?_ ?_ (hret pcR lsR H2 locs2 q1 q2 q3))
            · dsimp only; omega
            · dsimp only; omega
          have hrun2 : va_Run p l0 e R sS m args below meth c H locs cells slots (y1.2.1 - h.1) (zSL y1.2.1 - zSL h.1) (F0 m pc la (st.map (zv g))) ((st.drop na).map (zv g)) (zQc g y1 (((st.take na).reverse.map (zv g)).toArray)) (zA g) :=
            va_runS ⟨hx, hb, hml, hown, hts⟩ hmet ⟨callB_of na hts (zgoodIn hcd) rfl rfl rfl (hts _ hini) (hts _ hlk) ⟨hne.1, hne.2, hpar⟩ hroom, hts _ hstt⟩ ⟨hfb, hpre⟩ rfl hlen' hL.1 hspl hW8 hd hfit
          obtain ⟨v, hy⟩ := y1
          rcases hrk with ⟨r, hr1, hr2⟩ | ⟨r, hr1, hr2⟩ | ⟨hr1, hr2⟩
          · dsimp only at hr1
            subst hr1
            refine va_calli (a := #[]) (post := fun r' (_ : Unit) => r' = r) hrun2 hS (fun q _ h => h) (fun q h => h) (fun r' u t H1 locs1 ht hvm hw hB hz1 hk1 hS1 => ?_)
            subst hw
            have := after t H1 locs1 ht hB hS1
            rw [if_neg hr2] at this
            exact this
          · dsimp only at hr1
            subst hr1
            refine va_calll (a := #[]) (post := fun r' (_ : Unit) => r' = r) hrun2 hS (fun q _ h => h) (fun q h => h) (fun r' u t H1 locs1 ht hvm hw hB hz1 hk1 hS1 => ?_)
            subst hw
            have := after t H1 locs1 ht hB hS1
            rw [if_neg hr2] at this
            exact this
          · dsimp only at hr1
            subst hr1
            refine va_callv (a := #[]) (post := fun (_ : Unit) => True) hrun2 hS (fun q _ h => h) (fun q h => h) (fun u t H1 locs1 ht hvm hw hB hz1 hk1 hS1 => ?_)
            have := after t H1 locs1 ht hB hS1
            rw [if_pos hr2] at this
            exact this
        · exact (nn hrun).elim
      · exact (nn hrun).elim
    | _ => exact (nn (by simpa only [zins] using hrun)).elim
end
section
/-! the law's start out of the interpreter's run of the law -/
def R_law : String := "HarpFencesLaw"
def lw_P (b : Addr) (xs : List Int32) (args : Array Value) (s : State) : Prop := args = #[.ref b] ∧ s.IntsAt b xs ∧ xs.length ≤ 3584 ∧ (Jvm.Cond.and given_1 narrow_1).before args s = true
def lw_Q (_ : Array Value) (s : State) (o : Outcome) (t : State) : Prop := o = .returned (some (.int 1)) ∧ Framed s o t [] 600000 7302250
def lw_Z (below : List Frame) (a : Array Value) (s : State) : State → Prop := fun t => ∃ o, t.status = .running ∧ Ended t below o ∧ lw_Q a s o t
/-- the law's own end, with 1 on the stack, nothing written that was there before, its room as the claim has it -/
theorem lw_ret {p : Program} {l : Launch} {e : Env} {s : State} {m : MethodId} {below : List Frame} {meth : Method} {c : Code} {b : Nat} (hx : p.tables.exec = Jvm.exec) (hb : c.code = code) (hr : meth.sig.returnType = ret) (hlocks : meth.locks = false) {pc : Nat} {H : Heap} {ls : Array Slot} (hdg : decode code pc = .ok (.ireturn, 1)) : W p l e room_1 s m #[Value.ref b] below meth c H [] 600000 7302250 (lw_Z below #[Value.ref b] s) (F0 m pc ls [.int 1]) := by
  intro T hT X
  obtain ⟨fs, hret, hrun, hended, hW, hframe⟩ := X.leave (v := some (.int 1)) (hlocks := hlocks) (fun h => by rw [hr] at h; cases h)
  have hmeth' : T.vm.method? m = some meth := X.method'
  refine ⟨T.setFrames fs, ?_, .returned (some (.int 1)), hrun, hended, rfl, ⟨_, rfl⟩, hW, hframe⟩
  jvm_step X.here [X.here.top, hx, hb, hdg, hmeth', hr, ret, narrow_b1]
  (try refine ⟨rfl, ?_⟩); (try refine ⟨rfl, ?_⟩)
  first | (intro acts; rw [hret _ acts rfl rfl rfl]) | rw [hret _ _ rfl rfl rfl]
  exact Steps.refl _
/-- what holds at the law's entry: the machine, the code, the tables' words (any of lw_tbl by 'hts w (by decide +kernel)'), the script of L ints xs at the cell b, what the Statement gives of the start (any of its parts by flat_of_before) -/
def lw_At (p : Program) (s : State) (m : MethodId) (meth : Method) (c : Code) (b L : Nat) (xs : Nat → Int32) : Prop :=
  p.tables.exec = Jvm.exec ∧ c.code = code ∧ meth.sig.returnType = ret ∧ c.maxLocals = 4 ∧ s.vm.findClass R_law = some m.cls ∧ (∀ w ∈ lw_tbl, w.before #[Value.ref b] s = true) ∧ va_X b L xs s s.heap ∧ b < s.heap.size ∧ meth.locks = false ∧ (Jvm.Cond.and given_1 narrow_1).before #[Value.ref b] s = true
abbrev zh0 : zHp := (0, fun _ _ => 0, fun _ _ => none, fun _ _ => 0)
theorem zmem_tbl {w : Cond} (h : w ∈ zTB) : w ∈ lw_tbl := (List.mem_filter.mp h).1
set_option maxRecDepth 100000 in
theorem zSL_197 : zSL 197 = 4847 := by decide +kernel
theorem zAO1 : Cond.arrayOver (.object "HarpFences$Stand") ∈ lw_tbl := List.mem_of_getElem? (i := 273) (by decide +kernel)
theorem zAO2 : Cond.arrayOver (.object "HarpFences$Image") ∈ lw_tbl := List.mem_of_getElem? (i := 287) (by decide +kernel)
theorem zarrP {ty : FieldType} {s : State} {args : Array Value} (h : (Cond.arrayClass ty).before args s = true) (hr : ∀ c, s.vm.findClass ("[" ++ ty.toString) = some c → va_RA s c ty) : ∃ c : ClassId, ArrOfT s c ty ∧ va_RA s c ty := by
  obtain ⟨c, k, comp, h1, h2, h3⟩ := Cond.arrayClass_spec h
  exact ⟨c, fun n z => ⟨fun k h => (by cases h), k, h2, comp, h3⟩, hr c h1⟩
theorem zarrO {C : String} {s : State} {args : Array Value} (h : (Cond.arrayOver (.object C)).before args s = true) : ∃ c : ClassId, ArrOfT s c (.object C) ∧ va_RA s c (.object C) := by
  obtain ⟨comp, c, k, h1, h2, h3, h4, h5⟩ := Cond.arrayOver_spec h
  exact ⟨c, fun n z => ⟨fun k h => (by cases h), k, h3, comp, h4⟩, k, comp, h3, h4, h1, h5⟩
set_option maxHeartbeats 4000000 in
theorem zwhole (hz : ∀ (L : Nat) (xs : Nat → Int32), L ≤ 3584 → ∃ h' : zHp, zev (L, xs) (185, 0, zent [.retAddr 0] 4, [], zh0) = some (.int 1, h') ∧ h'.1 = 197)
    {p : Program} {e : Env} {s : State} {m : MethodId} {below : List Frame} {meth : Method} {c : Code} (l : Launch) {b L : Nat} {xs : Nat → Int32} (hL : L ≤ 3584) (C0 : lw_At p s m meth c b L xs) : W p l e room_1 s m #[Value.ref b] below meth c s.heap [] 0 0 (lw_Z below #[Value.ref b] s) (entryFrame m ([Value.ref b] : List Value).toArray 4) := by
  obtain ⟨hx, hb, hr, hml, hown, hts, hX, hbl, hlocks, hgv⟩ := id C0
  obtain ⟨h', hev, hn⟩ := hz L xs hL
  obtain ⟨n, hrun⟩ := zev_iff.mp hev
  have htz : ∀ w ∈ zTB, w.before #[Value.ref b] s = true := fun w h => hts w (zmem_tbl h)
  have hkn : ∀ (ci : Nat) (r : vw_C), zCl[ci]? = some r → ∃ (cC : ClassId) (iS : Nat → Nat), u_Kn s r.1 r.2.1 r.2.2 cC iS := by
    intro ci r hr
    obtain ⟨-, hck⟩ := zCK_of hr
    exact u_known (n := r.2.2) htz hck.1 (htz _ hck.2.2.2.1)
  obtain ⟨dC, dI, hKc⟩ : ∃ (dC : Nat → ClassId) (dI : Nat → Nat → Nat), ∀ (ci : Nat) (r : vw_C), zCl[ci]? = some r → u_Kn s r.1 r.2.1 r.2.2 (dC ci) (dI ci) := by
    have key : ∀ ci : Nat, ∃ (cC : ClassId) (iS : Nat → Nat), ∀ r, zCl[ci]? = some r → u_Kn s r.1 r.2.1 r.2.2 cC iS := by
      intro ci
      cases h : zCl[ci]? with
      | none => exact ⟨0, fun _ => 0, fun r h => by cases h⟩
      | some r =>
        obtain ⟨cC, iS, hk⟩ := hkn ci r h
        exact ⟨cC, iS, fun r' h' => by cases h'; exact hk⟩
    exact ⟨fun ci => (key ci).choose, fun ci => (key ci).choose_spec.choose, fun ci r hr => (key ci).choose_spec.choose_spec r hr⟩
  obtain ⟨cI, hI1, hI2⟩ := zarrP (htz _ zaci) (fun c q => q)
  obtain ⟨cB, hB1, hB2⟩ := zarrP (htz _ zacb) (fun c q => q)
  obtain ⟨cZ, hZ1, hZ2⟩ := zarrP (htz _ zacz) (fun c q => q)
  obtain ⟨cS, hS1, hS2⟩ := zarrO (hts _ zAO1)
  obtain ⟨cM, hM1, hM2⟩ := zarrO (hts _ zAO2)
  have hS := zsnd l (L, xs) n _ _ hrun
  have hK : va_K (dC, dI) zCl (ztys ((dC, dI), cI, cB, cZ, cS, cM, s.heap.size, b)) s := by
    refine ⟨hKc, fun k q hk => ?_⟩
    match k, hk with
    | 0, hk => cases hk; exact ⟨hI1, hI2⟩
    | 1, hk => cases hk; exact ⟨hB1, hB2⟩
    | 2, hk => cases hk; exact ⟨hZ1, hZ2⟩
    | 3, hk => cases hk; exact ⟨hS1, hS2⟩
    | 4, hk => cases hk; exact ⟨hM1, hM2⟩
    | k + 5, hk => simp [ztys] at hk
  have hN : zNw s := by
    refine ⟨fun w hw => ?_, va_AO.of (hts _ zAO1), va_AO.of (hts _ zAO2)⟩
    have h1 := hts w (List.mem_filter.mp hw).1
    have h2 := (List.mem_filter.mp hw).2
    cases w <;> first | exact va_Nw.of rfl h1 | cases h2
  rw [lg_entry_eq]
  have hLs := zLs_ent (g := ((dC, dI), cI, cB, cZ, cS, cM, s.heap.size, b)) (k := 185) (n := 4) (as := [.retAddr 0]) rfl (by decide)
  have hn0 : h'.1 - 0 = 197 := by omega
  refine hS (yL_law, cL_law, 4, some .boolean, 12, 9, 310) ((dC, dI), cI, cB, cZ, cS, cM, s.heap.size, b) s.heap [] 0 0 _ _ rfl ⟨hx, hb, hml, hown, htz, hK, hN, ⟨hX, hbl⟩, Nat.le_refl _, fun q => absurd q (by decide), Nat.le_refl _, Nat.le_refl _⟩ ⟨rfl, fun k q hk => by simp [zW] at hk⟩ va_S.rf hLs rfl ?_ ?_ ?_
  · show 0 + (h'.1 - 0) ≤ 600000
    omega
  · show 0 + (zSL h'.1 - zSL 0) ≤ 7302250
    rw [hn, zSL_197]
    exact Nat.le_of_ble_eq_true rfl
  · intro pcR lsR H2 locs2 q1 q2 q3
    refine va_forget (fun q hq => q3.2.2 q hq) ?_
    refine W.widen (k := 600000) (n := 7302250) ?_ ?_ ?_
    · show 0 + (h'.1 - 0) ≤ 600000
      omega
    · show 0 + (zSL h'.1 - zSL 0) ≤ 7302250
      rw [hn, zSL_197]
      exact Nat.le_of_ble_eq_true rfl
    · rcases q1 with ⟨r, hr1, hd, -⟩ | ⟨r, hr1, -⟩ | ⟨hr1, -⟩
      · cases hr1
        exact lw_ret hx hb hr hlocks hd
      · cases hr1
      · cases hr1
end
section
/-! one instruction of the interpreter, as an equation -/
theorem zok_of {n a c : Nat} (h : zok n a c = true) : zok n a c = true := h
section ZE
variable {sc : zScr} {k pc : Nat} {ls : List (Option Value)} {st : List Value} {h : zHp} {M : zMe}
theorem ze_step {ins : Instr} {len : Nat} (hM : zM k = some M) (hd : decode M.2.1 pc = .ok (ins, len)) (hl : len = zlen ins len) : zev sc (k, pc, ls, st, h) = zstp (zev sc) (zins sc k M pc ls st h ins) := by
  rw [zev_eq]
  unfold zact
  dsimp only
  rw [hM]
  dsimp only
  rw [hd]
  dsimp only
  rw [if_pos hl]
theorem ze_go {ins : Instr} {len : Nat} {s' : zSt} (hM : zM k = some M) (hd : decode M.2.1 pc = .ok (ins, len)) (hl : len = zlen ins len) (hz : zins sc k M pc ls st h ins = some (.inr (.inl s'))) : zev sc (k, pc, ls, st, h) = zev sc s' := by
  rw [ze_step hM hd hl, hz]
  rfl
theorem ze_ret {ins : Instr} {len : Nat} {r : zRs} (hM : zM k = some M) (hd : decode M.2.1 pc = .ok (ins, len)) (hl : len = zlen ins len) (hz : zins sc k M pc ls st h ins = some (.inl r)) : zev sc (k, pc, ls, st, h) = some r := by
  rw [ze_step hM hd hl, hz]
  rfl
theorem ze_call {ins : Instr} {len : Nat} {sf : zSt × (zRs → zSt)} (hM : zM k = some M) (hd : decode M.2.1 pc = .ok (ins, len)) (hl : len = zlen ins len) (hz : zins sc k M pc ls st h ins = some (.inr (.inr sf))) : zev sc (k, pc, ls, st, h) = (zev sc sf.1).bind (fun x => zev sc (sf.2 x)) := by
  rw [ze_step hM hd hl, hz]
  rfl
theorem ze_aload_n {j : Fin 4} {a : Nat} (pc' : Nat) (hM : zM k = some M) (hd : decode M.2.1 pc = .ok (.aload_n j, 1)) (hl : ls[j.val]? = some (some (.ref a))) (hp : pc + 1 = pc') : zev sc (k, pc, ls, st, h) = zev sc (k, pc', ls, .ref a :: st, h) := by
  subst hp; exact ze_go hM hd rfl (by simp only [zins, hl]; rfl)
theorem ze_aload_s {j : Fin 4} {a : Nat} (pc' : Nat) (hM : zM k = some M) (hd : decode M.2.1 pc = .ok (.aload_n j, 1)) (hl : ls[j.val]? = some (some (.retAddr a))) (hp : pc + 1 = pc') : zev sc (k, pc, ls, st, h) = zev sc (k, pc', ls, .retAddr a :: st, h) := by
  subst hp; exact ze_go hM hd rfl (by simp only [zins, hl]; rfl)
theorem ze_aload {j : Nat} {a : Nat} (pc' : Nat) (hM : zM k = some M) (hd : decode M.2.1 pc = .ok (.aload j, 2)) (hl : ls[j]? = some (some (.ref a))) (hp : pc + 2 = pc') : zev sc (k, pc, ls, st, h) = zev sc (k, pc', ls, .ref a :: st, h) := by
  subst hp; exact ze_go hM hd rfl (by simp only [zins, hl]; rfl)
theorem ze_iload_n {j : Fin 4} {x : Int32} (pc' : Nat) (hM : zM k = some M) (hd : decode M.2.1 pc = .ok (.iload_n j, 1)) (hl : ls[j.val]? = some (some (.int x))) (hp : pc + 1 = pc') : zev sc (k, pc, ls, st, h) = zev sc (k, pc', ls, .int x :: st, h) := by
  subst hp; exact ze_go hM hd rfl (by simp only [zins, hl]; rfl)
theorem ze_iload {j : Nat} {x : Int32} (pc' : Nat) (hM : zM k = some M) (hd : decode M.2.1 pc = .ok (.iload j, 2)) (hl : ls[j]? = some (some (.int x))) (hp : pc + 2 = pc') : zev sc (k, pc, ls, st, h) = zev sc (k, pc', ls, .int x :: st, h) := by
  subst hp; exact ze_go hM hd rfl (by simp only [zins, hl]; rfl)
theorem ze_lload {j : Nat} {x : Int64} (pc' : Nat) (hM : zM k = some M) (hd : decode M.2.1 pc = .ok (.lload j, 2)) (hl : ls[j]? = some (some (.long x))) (hp : pc + 2 = pc') : zev sc (k, pc, ls, st, h) = zev sc (k, pc', ls, .long x :: st, h) := by
  subst hp; exact ze_go hM hd rfl (by simp only [zins, hl]; rfl)
theorem zset_of {A j : Nat} {v : Value} {ls' : List (Option Value)} (hA : zLA k = A) (h1 : Nat.beq j A = false) (h2 : Nat.beq j (A + 1) = false) (h3 : Nat.ble (j + 1) ls.length = true) (h4 : ls.set j (some v) = ls') : zset k ls j v = some ls' := by
  unfold zset
  rw [hA, if_neg ?_, h4]
  rintro (e | e | e)
  · exact Nat.ne_of_beq_eq_false h1 e
  · exact Nat.ne_of_beq_eq_false h2 e
  · have := Nat.le_of_ble_eq_true h3
    omega
theorem ze_istore_n {j : Fin 4} {x : Int32} {A : Nat} {ls' : List (Option Value)} (pc' : Nat) (hM : zM k = some M) (hd : decode M.2.1 pc = .ok (.istore_n j, 1)) (hA : zLA k = A) (h1 : Nat.beq j.val A = false) (h2 : Nat.beq j.val (A + 1) = false) (h3 : Nat.ble (j.val + 1) ls.length = true) (h4 : ls.set j.val (some (.int x)) = ls') (hp : pc + 1 = pc') : zev sc (k, pc, ls, .int x :: st, h) = zev sc (k, pc', ls', st, h) := by
  subst hp; exact ze_go hM hd rfl (by simp only [zins, zset_of hA h1 h2 h3 h4]; rfl)
theorem ze_istore {j : Nat} {x : Int32} {A : Nat} {ls' : List (Option Value)} (pc' : Nat) (hM : zM k = some M) (hd : decode M.2.1 pc = .ok (.istore j, 2)) (hA : zLA k = A) (h1 : Nat.beq j A = false) (h2 : Nat.beq j (A + 1) = false) (h3 : Nat.ble (j + 1) ls.length = true) (h4 : ls.set j (some (.int x)) = ls') (hp : pc + 2 = pc') : zev sc (k, pc, ls, .int x :: st, h) = zev sc (k, pc', ls', st, h) := by
  subst hp; exact ze_go hM hd rfl (by simp only [zins, zset_of hA h1 h2 h3 h4]; rfl)
theorem ze_astore_n {j : Fin 4} {x : Nat} {A : Nat} {ls' : List (Option Value)} (pc' : Nat) (hM : zM k = some M) (hd : decode M.2.1 pc = .ok (.astore_n j, 1)) (hA : zLA k = A) (h1 : Nat.beq j.val A = false) (h2 : Nat.beq j.val (A + 1) = false) (h3 : Nat.ble (j.val + 1) ls.length = true) (h4 : ls.set j.val (some (.ref x)) = ls') (hp : pc + 1 = pc') : zev sc (k, pc, ls, .ref x :: st, h) = zev sc (k, pc', ls', st, h) := by
  subst hp; exact ze_go hM hd rfl (by simp only [zins, zset_of hA h1 h2 h3 h4]; rfl)
theorem ze_astore {j : Nat} {x : Nat} {A : Nat} {ls' : List (Option Value)} (pc' : Nat) (hM : zM k = some M) (hd : decode M.2.1 pc = .ok (.astore j, 2)) (hA : zLA k = A) (h1 : Nat.beq j A = false) (h2 : Nat.beq j (A + 1) = false) (h3 : Nat.ble (j + 1) ls.length = true) (h4 : ls.set j (some (.ref x)) = ls') (hp : pc + 2 = pc') : zev sc (k, pc, ls, .ref x :: st, h) = zev sc (k, pc', ls', st, h) := by
  subst hp; exact ze_go hM hd rfl (by simp only [zins, zset_of hA h1 h2 h3 h4]; rfl)
theorem ze_lstore {j : Nat} {x : Int64} {ls' : List (Option Value)} (pc' : Nat) (hM : zM k = some M) (hd : decode M.2.1 pc = .ok (.lstore j, 2)) (hA : zLA k = j) (h3 : Nat.ble (j + 2) M.2.2.1 = true) (h4 : (ls.set j (some (.long x))).set (j + 1) none = ls') (hp : pc + 2 = pc') : zev sc (k, pc, ls, .long x :: st, h) = zev sc (k, pc', ls', st, h) := by
  subst hp; exact ze_go hM hd rfl (by simp only [zins]; rw [if_pos ⟨hA.symm, Nat.le_of_ble_eq_true h3⟩, h4]; rfl)
theorem ze_iinc {j : Nat} {c : Int} {x v : Int32} {A : Nat} {ls' : List (Option Value)} (pc' : Nat) (hM : zM k = some M) (hd : decode M.2.1 pc = .ok (.iinc j c, 3)) (hl : ls[j]? = some (some (.int x))) (hv : Int32.ofInt c = v) (hA : zLA k = A) (h1 : Nat.beq j A = false) (h2 : Nat.beq j (A + 1) = false) (h3 : Nat.ble (j + 1) ls.length = true) (h4 : ls.set j (some (.int (x + v))) = ls') (hp : pc + 3 = pc') : zev sc (k, pc, ls, st, h) = zev sc (k, pc', ls', st, h) := by
  subst hp; subst hv; exact ze_go hM hd rfl (by simp only [zins, hl, zset_of hA h1 h2 h3 h4]; rfl)
theorem ze_iconst {n : Int} {v : Int32} (pc' : Nat) (hM : zM k = some M) (hd : decode M.2.1 pc = .ok (.iconst n, 1)) (hv : Int32.ofInt n = v) (hp : pc + 1 = pc') : zev sc (k, pc, ls, st, h) = zev sc (k, pc', ls, .int v :: st, h) := by
  subst hp; subst hv; exact ze_go hM hd rfl rfl
theorem ze_bipush {n : Int} {v : Int32} (pc' : Nat) (hM : zM k = some M) (hd : decode M.2.1 pc = .ok (.bipush n, 2)) (hv : (Int8.ofInt n).toInt32 = v) (hp : pc + 2 = pc') : zev sc (k, pc, ls, st, h) = zev sc (k, pc', ls, .int v :: st, h) := by
  subst hp; subst hv; exact ze_go hM hd rfl rfl
theorem ze_sipush {n : Int} {v : Int32} (pc' : Nat) (hM : zM k = some M) (hd : decode M.2.1 pc = .ok (.sipush n, 3)) (hv : (Int16.ofInt n).toInt32 = v) (hp : pc + 3 = pc') : zev sc (k, pc, ls, st, h) = zev sc (k, pc', ls, .int v :: st, h) := by
  subst hp; subst hv; exact ze_go hM hd rfl rfl
theorem ze_lconst {n : Fin 2} {v : Int64} (pc' : Nat) (hM : zM k = some M) (hd : decode M.2.1 pc = .ok (.lconst n, 1)) (hv : Int64.ofNat n.val = v) (hp : pc + 1 = pc') : zev sc (k, pc, ls, st, h) = zev sc (k, pc', ls, .long v :: st, h) := by
  subst hp; subst hv; exact ze_go hM hd rfl rfl
theorem ze_ldc {n : Nat} {v : Int32} (pc' : Nat) (hM : zM k = some M) (hd : decode M.2.1 pc = .ok (.ldc n, 2)) (hv : zI M.2.2.2.2.1 n = some v) (hp : pc + 2 = pc') : zev sc (k, pc, ls, st, h) = zev sc (k, pc', ls, .int v :: st, h) := by
  subst hp; exact ze_go hM hd rfl (by simp only [zins, hv]; rfl)
theorem ze_ldc_w {n : Nat} {v : Int32} (pc' : Nat) (hM : zM k = some M) (hd : decode M.2.1 pc = .ok (.ldc_w n, 3)) (hv : zI M.2.2.2.2.1 n = some v) (hp : pc + 3 = pc') : zev sc (k, pc, ls, st, h) = zev sc (k, pc', ls, .int v :: st, h) := by
  subst hp; exact ze_go hM hd rfl (by simp only [zins, hv]; rfl)
theorem ze_ldc2_w {n : Nat} {v : Int64} (pc' : Nat) (hM : zM k = some M) (hd : decode M.2.1 pc = .ok (.ldc2_w n, 3)) (hv : zL M.2.2.2.2.1 n = some v) (hp : pc + 3 = pc') : zev sc (k, pc, ls, st, h) = zev sc (k, pc', ls, .long v :: st, h) := by
  subst hp; exact ze_go hM hd rfl (by simp only [zins, hv]; rfl)
theorem ze_iadd {x y : Int32} (pc' : Nat) (hM : zM k = some M) (hd : decode M.2.1 pc = .ok (.iadd, 1)) (hp : pc + 1 = pc') : zev sc (k, pc, ls, .int y :: .int x :: st, h) = zev sc (k, pc', ls, .int (x + y) :: st, h) := by
  subst hp; exact ze_go hM hd rfl rfl
theorem ze_isub {x y : Int32} (pc' : Nat) (hM : zM k = some M) (hd : decode M.2.1 pc = .ok (.isub, 1)) (hp : pc + 1 = pc') : zev sc (k, pc, ls, .int y :: .int x :: st, h) = zev sc (k, pc', ls, .int (x - y) :: st, h) := by
  subst hp; exact ze_go hM hd rfl rfl
theorem ze_imul {x y : Int32} (pc' : Nat) (hM : zM k = some M) (hd : decode M.2.1 pc = .ok (.imul, 1)) (hp : pc + 1 = pc') : zev sc (k, pc, ls, .int y :: .int x :: st, h) = zev sc (k, pc', ls, .int (x * y) :: st, h) := by
  subst hp; exact ze_go hM hd rfl rfl
theorem ze_ishl {x y : Int32} (pc' : Nat) (hM : zM k = some M) (hd : decode M.2.1 pc = .ok (.ishl, 1)) (hp : pc + 1 = pc') : zev sc (k, pc, ls, .int y :: .int x :: st, h) = zev sc (k, pc', ls, .int (x <<< (y &&& 31)) :: st, h) := by
  subst hp; exact ze_go hM hd rfl rfl
theorem ze_ishr {x y : Int32} (pc' : Nat) (hM : zM k = some M) (hd : decode M.2.1 pc = .ok (.ishr, 1)) (hp : pc + 1 = pc') : zev sc (k, pc, ls, .int y :: .int x :: st, h) = zev sc (k, pc', ls, .int (x >>> (y &&& 31)) :: st, h) := by
  subst hp; exact ze_go hM hd rfl rfl
theorem ze_iushr {x y : Int32} (pc' : Nat) (hM : zM k = some M) (hd : decode M.2.1 pc = .ok (.iushr, 1)) (hp : pc + 1 = pc') : zev sc (k, pc, ls, .int y :: .int x :: st, h) = zev sc (k, pc', ls, .int ((x.toUInt32 >>> (y.toUInt32 &&& Int32.toUInt32 31)).toInt32) :: st, h) := by
  subst hp; exact ze_go hM hd rfl rfl
theorem ze_iand {x y : Int32} (pc' : Nat) (hM : zM k = some M) (hd : decode M.2.1 pc = .ok (.iand, 1)) (hp : pc + 1 = pc') : zev sc (k, pc, ls, .int y :: .int x :: st, h) = zev sc (k, pc', ls, .int (x &&& y) :: st, h) := by
  subst hp; exact ze_go hM hd rfl rfl
theorem ze_ior {x y : Int32} (pc' : Nat) (hM : zM k = some M) (hd : decode M.2.1 pc = .ok (.ior, 1)) (hp : pc + 1 = pc') : zev sc (k, pc, ls, .int y :: .int x :: st, h) = zev sc (k, pc', ls, .int (x ||| y) :: st, h) := by
  subst hp; exact ze_go hM hd rfl rfl
theorem ze_ixor {x y : Int32} (pc' : Nat) (hM : zM k = some M) (hd : decode M.2.1 pc = .ok (.ixor, 1)) (hp : pc + 1 = pc') : zev sc (k, pc, ls, .int y :: .int x :: st, h) = zev sc (k, pc', ls, .int (x ^^^ y) :: st, h) := by
  subst hp; exact ze_go hM hd rfl rfl
theorem ze_idiv {x y : Int32} (pc' : Nat) (hM : zM k = some M) (hd : decode M.2.1 pc = .ok (.idiv, 1)) (hy : ¬ y = 0) (hp : pc + 1 = pc') : zev sc (k, pc, ls, .int y :: .int x :: st, h) = zev sc (k, pc', ls, .int (x / y) :: st, h) := by
  subst hp; exact ze_go hM hd rfl (by simp only [zins]; rw [if_neg hy]; rfl)
theorem ze_irem {x y : Int32} (pc' : Nat) (hM : zM k = some M) (hd : decode M.2.1 pc = .ok (.irem, 1)) (hy : ¬ y = 0) (hp : pc + 1 = pc') : zev sc (k, pc, ls, .int y :: .int x :: st, h) = zev sc (k, pc', ls, .int (x - x / y * y) :: st, h) := by
  subst hp; exact ze_go hM hd rfl (by simp only [zins]; rw [if_neg hy]; rfl)
theorem ze_ladd {x y : Int64} (pc' : Nat) (hM : zM k = some M) (hd : decode M.2.1 pc = .ok (.ladd, 1)) (hp : pc + 1 = pc') : zev sc (k, pc, ls, .long y :: .long x :: st, h) = zev sc (k, pc', ls, .long (x + y) :: st, h) := by
  subst hp; exact ze_go hM hd rfl rfl
theorem ze_lmul {x y : Int64} (pc' : Nat) (hM : zM k = some M) (hd : decode M.2.1 pc = .ok (.lmul, 1)) (hp : pc + 1 = pc') : zev sc (k, pc, ls, .long y :: .long x :: st, h) = zev sc (k, pc', ls, .long (x * y) :: st, h) := by
  subst hp; exact ze_go hM hd rfl rfl
theorem ze_lcmp {x y : Int64} (pc' : Nat) (hM : zM k = some M) (hd : decode M.2.1 pc = .ok (.lcmp, 1)) (hp : pc + 1 = pc') : zev sc (k, pc, ls, .long y :: .long x :: st, h) = zev sc (k, pc', ls, .int (lg_cmp x y) :: st, h) := by
  subst hp; exact ze_go hM hd rfl rfl
theorem ze_i2b {x : Int32} (pc' : Nat) (hM : zM k = some M) (hd : decode M.2.1 pc = .ok (.i2b, 1)) (hp : pc + 1 = pc') : zev sc (k, pc, ls, .int x :: st, h) = zev sc (k, pc', ls, .int x.toInt8.toInt32 :: st, h) := by
  subst hp; exact ze_go hM hd rfl rfl
theorem ze_dup {v : Value} (pc' : Nat) (hM : zM k = some M) (hd : decode M.2.1 pc = .ok (.dup, 1)) (hv : v.category = 1) (hp : pc + 1 = pc') : zev sc (k, pc, ls, v :: st, h) = zev sc (k, pc', ls, v :: v :: st, h) := by
  subst hp; exact ze_go hM hd rfl (by simp only [zins]; rw [if_pos hv]; rfl)
theorem ze_dup2 {v w : Value} (pc' : Nat) (hM : zM k = some M) (hd : decode M.2.1 pc = .ok (.dup2, 1)) (hv : v.category = 1) (hw : w.category = 1) (hp : pc + 1 = pc') : zev sc (k, pc, ls, v :: w :: st, h) = zev sc (k, pc', ls, v :: w :: v :: w :: st, h) := by
  subst hp; exact ze_go hM hd rfl (by simp only [zins]; rw [if_pos ⟨hv, hw⟩]; rfl)
theorem zTg_of {pc t : Nat} {off : Int} (h : (pc : Int) + off = (t : Int)) : zTg pc off = some t := by
  unfold zTg
  rw [h]
theorem ze_goto {off : Int} (t : Nat) (hM : zM k = some M) (hd : decode M.2.1 pc = .ok (.goto off, 3)) (ht : (pc : Int) + off = (t : Int)) : zev sc (k, pc, ls, st, h) = zev sc (k, t, ls, st, h) :=
  ze_go hM hd rfl (by simp only [zins, zTg_of ht]; rfl)
theorem ze_if_eq {x : Int32} {off : Int} (t pc' : Nat) (hM : zM k = some M) (hd : decode M.2.1 pc = .ok (.ifCond .eq off, 3)) (ht : (pc : Int) + off = (t : Int)) (hp : pc + 3 = pc') : zev sc (k, pc, ls, .int x :: st, h) = if x = 0 then zev sc (k, t, ls, st, h) else zev sc (k, pc', ls, st, h) := by
  subst hp
  by_cases hq : x = 0
  · rw [if_pos hq]
    exact ze_go hM hd rfl (by simp only [zins, zTg_of ht]; rw [if_pos (by simp [zcmp, hq])]; rfl)
  · rw [if_neg hq]
    exact ze_go hM hd rfl (by simp only [zins, zTg_of ht]; rw [if_neg (by simp [zcmp, hq])]; rfl)
theorem ze_icmp_eq {x y : Int32} {off : Int} (t pc' : Nat) (hM : zM k = some M) (hd : decode M.2.1 pc = .ok (.if_icmp .eq off, 3)) (ht : (pc : Int) + off = (t : Int)) (hp : pc + 3 = pc') : zev sc (k, pc, ls, .int y :: .int x :: st, h) = if x = y then zev sc (k, t, ls, st, h) else zev sc (k, pc', ls, st, h) := by
  subst hp
  by_cases hq : x = y
  · rw [if_pos hq]
    exact ze_go hM hd rfl (by simp only [zins, zTg_of ht]; rw [if_pos (by simp [zcmp, hq])]; rfl)
  · rw [if_neg hq]
    exact ze_go hM hd rfl (by simp only [zins, zTg_of ht]; rw [if_neg (by simp [zcmp, hq])]; rfl)
theorem ze_if_ne {x : Int32} {off : Int} (t pc' : Nat) (hM : zM k = some M) (hd : decode M.2.1 pc = .ok (.ifCond .ne off, 3)) (ht : (pc : Int) + off = (t : Int)) (hp : pc + 3 = pc') : zev sc (k, pc, ls, .int x :: st, h) = if x = 0 then zev sc (k, pc', ls, st, h) else zev sc (k, t, ls, st, h) := by
  subst hp
  by_cases hq : x = 0
  · rw [if_pos hq]
    exact ze_go hM hd rfl (by simp only [zins, zTg_of ht]; rw [if_neg (by simp [zcmp, hq])]; rfl)
  · rw [if_neg hq]
    exact ze_go hM hd rfl (by simp only [zins, zTg_of ht]; rw [if_pos (by simp [zcmp, hq])]; rfl)
theorem ze_icmp_ne {x y : Int32} {off : Int} (t pc' : Nat) (hM : zM k = some M) (hd : decode M.2.1 pc = .ok (.if_icmp .ne off, 3)) (ht : (pc : Int) + off = (t : Int)) (hp : pc + 3 = pc') : zev sc (k, pc, ls, .int y :: .int x :: st, h) = if x = y then zev sc (k, pc', ls, st, h) else zev sc (k, t, ls, st, h) := by
  subst hp
  by_cases hq : x = y
  · rw [if_pos hq]
    exact ze_go hM hd rfl (by simp only [zins, zTg_of ht]; rw [if_neg (by simp [zcmp, hq])]; rfl)
  · rw [if_neg hq]
    exact ze_go hM hd rfl (by simp only [zins, zTg_of ht]; rw [if_pos (by simp [zcmp, hq])]; rfl)
theorem ze_if_lt {x : Int32} {off : Int} (t pc' : Nat) (hM : zM k = some M) (hd : decode M.2.1 pc = .ok (.ifCond .lt off, 3)) (ht : (pc : Int) + off = (t : Int)) (hp : pc + 3 = pc') : zev sc (k, pc, ls, .int x :: st, h) = if x < 0 then zev sc (k, t, ls, st, h) else zev sc (k, pc', ls, st, h) := by
  subst hp
  by_cases hq : x < 0
  · rw [if_pos hq]
    exact ze_go hM hd rfl (by simp only [zins, zTg_of ht]; rw [if_pos (by simp [zcmp, hq])]; rfl)
  · rw [if_neg hq]
    exact ze_go hM hd rfl (by simp only [zins, zTg_of ht]; rw [if_neg (by simp [zcmp, hq])]; rfl)
theorem ze_icmp_lt {x y : Int32} {off : Int} (t pc' : Nat) (hM : zM k = some M) (hd : decode M.2.1 pc = .ok (.if_icmp .lt off, 3)) (ht : (pc : Int) + off = (t : Int)) (hp : pc + 3 = pc') : zev sc (k, pc, ls, .int y :: .int x :: st, h) = if x < y then zev sc (k, t, ls, st, h) else zev sc (k, pc', ls, st, h) := by
  subst hp
  by_cases hq : x < y
  · rw [if_pos hq]
    exact ze_go hM hd rfl (by simp only [zins, zTg_of ht]; rw [if_pos (by simp [zcmp, hq])]; rfl)
  · rw [if_neg hq]
    exact ze_go hM hd rfl (by simp only [zins, zTg_of ht]; rw [if_neg (by simp [zcmp, hq])]; rfl)
theorem ze_if_ge {x : Int32} {off : Int} (t pc' : Nat) (hM : zM k = some M) (hd : decode M.2.1 pc = .ok (.ifCond .ge off, 3)) (ht : (pc : Int) + off = (t : Int)) (hp : pc + 3 = pc') : zev sc (k, pc, ls, .int x :: st, h) = if 0 ≤ x then zev sc (k, t, ls, st, h) else zev sc (k, pc', ls, st, h) := by
  subst hp
  by_cases hq : 0 ≤ x
  · rw [if_pos hq]
    exact ze_go hM hd rfl (by simp only [zins, zTg_of ht]; rw [if_pos (by simp [zcmp, hq])]; rfl)
  · rw [if_neg hq]
    exact ze_go hM hd rfl (by simp only [zins, zTg_of ht]; rw [if_neg (by simp [zcmp, hq])]; rfl)
theorem ze_icmp_ge {x y : Int32} {off : Int} (t pc' : Nat) (hM : zM k = some M) (hd : decode M.2.1 pc = .ok (.if_icmp .ge off, 3)) (ht : (pc : Int) + off = (t : Int)) (hp : pc + 3 = pc') : zev sc (k, pc, ls, .int y :: .int x :: st, h) = if y ≤ x then zev sc (k, t, ls, st, h) else zev sc (k, pc', ls, st, h) := by
  subst hp
  by_cases hq : y ≤ x
  · rw [if_pos hq]
    exact ze_go hM hd rfl (by simp only [zins, zTg_of ht]; rw [if_pos (by simp [zcmp, hq])]; rfl)
  · rw [if_neg hq]
    exact ze_go hM hd rfl (by simp only [zins, zTg_of ht]; rw [if_neg (by simp [zcmp, hq])]; rfl)
theorem ze_if_gt {x : Int32} {off : Int} (t pc' : Nat) (hM : zM k = some M) (hd : decode M.2.1 pc = .ok (.ifCond .gt off, 3)) (ht : (pc : Int) + off = (t : Int)) (hp : pc + 3 = pc') : zev sc (k, pc, ls, .int x :: st, h) = if 0 < x then zev sc (k, t, ls, st, h) else zev sc (k, pc', ls, st, h) := by
  subst hp
  by_cases hq : 0 < x
  · rw [if_pos hq]
    exact ze_go hM hd rfl (by simp only [zins, zTg_of ht]; rw [if_pos (by simp [zcmp, hq])]; rfl)
  · rw [if_neg hq]
    exact ze_go hM hd rfl (by simp only [zins, zTg_of ht]; rw [if_neg (by simp [zcmp, hq])]; rfl)
theorem ze_icmp_gt {x y : Int32} {off : Int} (t pc' : Nat) (hM : zM k = some M) (hd : decode M.2.1 pc = .ok (.if_icmp .gt off, 3)) (ht : (pc : Int) + off = (t : Int)) (hp : pc + 3 = pc') : zev sc (k, pc, ls, .int y :: .int x :: st, h) = if y < x then zev sc (k, t, ls, st, h) else zev sc (k, pc', ls, st, h) := by
  subst hp
  by_cases hq : y < x
  · rw [if_pos hq]
    exact ze_go hM hd rfl (by simp only [zins, zTg_of ht]; rw [if_pos (by simp [zcmp, hq])]; rfl)
  · rw [if_neg hq]
    exact ze_go hM hd rfl (by simp only [zins, zTg_of ht]; rw [if_neg (by simp [zcmp, hq])]; rfl)
theorem ze_if_le {x : Int32} {off : Int} (t pc' : Nat) (hM : zM k = some M) (hd : decode M.2.1 pc = .ok (.ifCond .le off, 3)) (ht : (pc : Int) + off = (t : Int)) (hp : pc + 3 = pc') : zev sc (k, pc, ls, .int x :: st, h) = if x ≤ 0 then zev sc (k, t, ls, st, h) else zev sc (k, pc', ls, st, h) := by
  subst hp
  by_cases hq : x ≤ 0
  · rw [if_pos hq]
    exact ze_go hM hd rfl (by simp only [zins, zTg_of ht]; rw [if_pos (by simp [zcmp, hq])]; rfl)
  · rw [if_neg hq]
    exact ze_go hM hd rfl (by simp only [zins, zTg_of ht]; rw [if_neg (by simp [zcmp, hq])]; rfl)
theorem ze_icmp_le {x y : Int32} {off : Int} (t pc' : Nat) (hM : zM k = some M) (hd : decode M.2.1 pc = .ok (.if_icmp .le off, 3)) (ht : (pc : Int) + off = (t : Int)) (hp : pc + 3 = pc') : zev sc (k, pc, ls, .int y :: .int x :: st, h) = if x ≤ y then zev sc (k, t, ls, st, h) else zev sc (k, pc', ls, st, h) := by
  subst hp
  by_cases hq : x ≤ y
  · rw [if_pos hq]
    exact ze_go hM hd rfl (by simp only [zins, zTg_of ht]; rw [if_pos (by simp [zcmp, hq])]; rfl)
  · rw [if_neg hq]
    exact ze_go hM hd rfl (by simp only [zins, zTg_of ht]; rw [if_neg (by simp [zcmp, hq])]; rfl)
theorem ze_table {d lo hi : Int} {offs : Array Int} {len : Nat} {x : Int32} {t : Nat} (hM : zM k = some M) (hd : decode M.2.1 pc = .ok (.tableswitch d lo hi offs, len)) (ht : zsw pc d lo hi offs x = some t) : zev sc (k, pc, ls, .int x :: st, h) = zev sc (k, t, ls, st, h) :=
  ze_go hM hd rfl (by simp only [zins, ht]; rfl)
theorem ze_lookup {d : Int} {ps : Array (Int × Int)} {len : Nat} {x : Int32} {t : Nat} (hM : zM k = some M) (hd : decode M.2.1 pc = .ok (.lookupswitch d ps, len)) (hs : (ps.toList.zip (ps.toList.drop 1)).all (fun (a, next) => a.1 < next.1) = true) (ht : zTg pc (Op.lookupswitch.offset ps.toList d x.toInt) = some t) : zev sc (k, pc, ls, .int x :: st, h) = zev sc (k, t, ls, st, h) :=
  ze_go hM hd rfl (by simp only [zins]; rw [if_pos hs, ht]; rfl)
/-- a switch by its list of cases -/
def zcs (x : Int32) (d : Nat) : List (Int32 × Nat) → Nat
  | [] => d
  | q :: l => if x = q.1 then q.2 else zcs x d l
theorem ze_getI {n ci j a : Nat} (pc' : Nat) (hM : zM k = some M) (hd : decode M.2.1 pc = .ok (.getfield n, 3)) (hF : zF M.2.2.2.2.1 n = some (ci, j)) (hk : zok h.1 a ci = true) (ht : zcl (zTy ci j) = 0 ∨ zcl (zTy ci j) = 3) (hp : pc + 3 = pc') : zev sc (k, pc, ls, .ref a :: st, h) = zev sc (k, pc', ls, .int (h.2.1 a j) :: st, h) := by
  subst hp
  refine ze_go hM hd rfl ?_
  simp only [zins, hF]
  rw [if_pos hk]
  rcases ht with ht | ht <;> rw [ht] <;> rfl
theorem ze_getL {n ci j a : Nat} (pc' : Nat) (hM : zM k = some M) (hd : decode M.2.1 pc = .ok (.getfield n, 3)) (hF : zF M.2.2.2.2.1 n = some (ci, j)) (hk : zok h.1 a ci = true) (ht : zcl (zTy ci j) = 1) (hp : pc + 3 = pc') : zev sc (k, pc, ls, .ref a :: st, h) = zev sc (k, pc', ls, .long (h.2.2.2 a j) :: st, h) := by
  subst hp
  refine ze_go hM hd rfl ?_
  simp only [zins, hF]
  rw [if_pos hk, ht]
  rfl
theorem ze_getR {n ci j a q : Nat} (pc' : Nat) (hM : zM k = some M) (hd : decode M.2.1 pc = .ok (.getfield n, 3)) (hF : zF M.2.2.2.2.1 n = some (ci, j)) (hk : zok h.1 a ci = true) (ht : zcl (zTy ci j) = 2) (hr : h.2.2.1 a j = some q) (hp : pc + 3 = pc') : zev sc (k, pc, ls, .ref a :: st, h) = zev sc (k, pc', ls, .ref q :: st, h) := by
  subst hp
  refine ze_go hM hd rfl ?_
  simp only [zins, hF]
  rw [if_pos hk, ht]
  simp only [hr]
  rfl
def zfin (M : zMe) (ci j : Nat) : Prop := (zCl[ci]?).map (fun r => (r.2.1 j).2.2.2) = some false ∨ ((zCl[ci]?).map (fun r => (r.2.1 j).2.2.2) = some true ∧ M.1.name = "<init>" ∧ (zCl[ci]?).map (fun r => (r.2.1 j).1) = some (zRN M.2.2.2.2.1))
theorem ze_putI {n ci j a : Nat} {x : Int32} (pc' : Nat) (hM : zM k = some M) (hd : decode M.2.1 pc = .ok (.putfield n, 3)) (hF : zF M.2.2.2.2.1 n = some (ci, j)) (hk : zok h.1 a ci = true) (hf : zfin M ci j) (ht : zcl (zTy ci j) = 0) (hp : pc + 3 = pc') : zev sc (k, pc, ls, .int x :: .ref a :: st, h) = zev sc (k, pc', ls, st, (h.1, zU h.2.1 a j x, h.2.2.1, h.2.2.2)) := by
  subst hp
  refine ze_go hM hd rfl ?_
  simp only [zins, hF]
  rw [if_pos ⟨hk, hf⟩, ht]
  rfl
theorem ze_putZ {n ci j a : Nat} {x : Int32} (pc' : Nat) (hM : zM k = some M) (hd : decode M.2.1 pc = .ok (.putfield n, 3)) (hF : zF M.2.2.2.2.1 n = some (ci, j)) (hk : zok h.1 a ci = true) (hf : zfin M ci j) (ht : zcl (zTy ci j) = 3) (hx : x = 0 ∨ x = 1) (hp : pc + 3 = pc') : zev sc (k, pc, ls, .int x :: .ref a :: st, h) = zev sc (k, pc', ls, st, (h.1, zU h.2.1 a j x, h.2.2.1, h.2.2.2)) := by
  subst hp
  refine ze_go hM hd rfl ?_
  simp only [zins, hF]
  rw [if_pos ⟨hk, hf⟩, ht]
  simp only [if_pos hx]
  rfl
theorem ze_putL {n ci j a : Nat} {x : Int64} (pc' : Nat) (hM : zM k = some M) (hd : decode M.2.1 pc = .ok (.putfield n, 3)) (hF : zF M.2.2.2.2.1 n = some (ci, j)) (hk : zok h.1 a ci = true) (hf : zfin M ci j) (ht : zcl (zTy ci j) = 1) (hp : pc + 3 = pc') : zev sc (k, pc, ls, .long x :: .ref a :: st, h) = zev sc (k, pc', ls, st, (h.1, h.2.1, h.2.2.1, zU h.2.2.2 a j x)) := by
  subst hp
  refine ze_go hM hd rfl ?_
  simp only [zins, hF]
  rw [if_pos ⟨hk, hf⟩, ht]
  rfl
theorem ze_putR {n ci j a x : Nat} (pc' : Nat) (hM : zM k = some M) (hd : decode M.2.1 pc = .ok (.putfield n, 3)) (hF : zF M.2.2.2.2.1 n = some (ci, j)) (hk : zok h.1 a ci = true) (hf : zfin M ci j) (ht : zcl (zTy ci j) = 2) (hp : pc + 3 = pc') : zev sc (k, pc, ls, .ref x :: .ref a :: st, h) = zev sc (k, pc', ls, st, (h.1, h.2.1, zU h.2.2.1 a j (some x), h.2.2.2)) := by
  subst hp
  refine ze_go hM hd rfl ?_
  simp only [zins, hF]
  rw [if_pos ⟨hk, hf⟩, ht]
  rfl
theorem ze_iaload {a N : Nat} {j : Int32} (pc' : Nat) (hM : zM k = some M) (hd : decode M.2.1 pc = .ok (.iaload, 1)) (hk : zok h.1 a 100 = true) (hN : (zK a).2 = N) (hj : vp_in j N) (hp : pc + 1 = pc') : zev sc (k, pc, ls, .int j :: .ref a :: st, h) = zev sc (k, pc', ls, .int (h.2.1 a j.toNatClampNeg) :: st, h) := by
  subst hp; subst hN; exact ze_go hM hd rfl (by simp only [zins]; rw [if_pos ⟨hk, hj⟩]; rfl)
theorem ze_saload {a : Nat} {j : Int32} (pc' : Nat) (hM : zM k = some M) (hd : decode M.2.1 pc = .ok (.iaload, 1)) (hj : vp_in j sc.1) (hp : pc + 1 = pc') : zev sc (k, pc, ls, .int j :: .retAddr a :: st, h) = zev sc (k, pc', ls, .int (sc.2 j.toNatClampNeg) :: st, h) := by
  subst hp; exact ze_go hM hd rfl (by simp only [zins]; rw [if_pos (show ¬ (j < 0 ∨ sc.1 ≤ j.toNatClampNeg) from hj)]; rfl)
theorem ze_slen {a : Nat} (pc' : Nat) (hM : zM k = some M) (hd : decode M.2.1 pc = .ok (.arraylength, 1)) (hp : pc + 1 = pc') : zev sc (k, pc, ls, .retAddr a :: st, h) = zev sc (k, pc', ls, .int (Int32.ofNat sc.1) :: st, h) := by
  subst hp; exact ze_go hM hd rfl rfl
theorem ze_baload {a N : Nat} {j : Int32} (pc' : Nat) (hM : zM k = some M) (hd : decode M.2.1 pc = .ok (.baload, 1)) (hk : zok h.1 a 101 = true ∨ zok h.1 a 102 = true) (hN : (zK a).2 = N) (hj : vp_in j N) (hp : pc + 1 = pc') : zev sc (k, pc, ls, .int j :: .ref a :: st, h) = zev sc (k, pc', ls, .int (h.2.1 a j.toNatClampNeg) :: st, h) := by
  subst hp; subst hN; exact ze_go hM hd rfl (by simp only [zins]; rw [if_pos ⟨hk, hj⟩]; rfl)
theorem ze_iastore {a N : Nat} {j x : Int32} (pc' : Nat) (hM : zM k = some M) (hd : decode M.2.1 pc = .ok (.iastore, 1)) (hk : zok h.1 a 100 = true) (hN : (zK a).2 = N) (hj : vp_in j N) (hp : pc + 1 = pc') : zev sc (k, pc, ls, .int x :: .int j :: .ref a :: st, h) = zev sc (k, pc', ls, st, (h.1, zU h.2.1 a j.toNatClampNeg x, h.2.2.1, h.2.2.2)) := by
  subst hp; subst hN; exact ze_go hM hd rfl (by simp only [zins]; rw [if_pos ⟨hk, hj⟩]; rfl)
theorem ze_bastoreB {a N : Nat} {j x : Int32} (pc' : Nat) (hM : zM k = some M) (hd : decode M.2.1 pc = .ok (.bastore, 1)) (hk : zok h.1 a 101 = true) (hN : (zK a).2 = N) (hj : vp_in j N) (hp : pc + 1 = pc') : zev sc (k, pc, ls, .int x :: .int j :: .ref a :: st, h) = zev sc (k, pc', ls, st, (h.1, zU h.2.1 a j.toNatClampNeg (vp_nar .byte x), h.2.2.1, h.2.2.2)) := by
  subst hp; subst hN; exact ze_go hM hd rfl (by simp only [zins]; rw [if_pos (show ¬ (j < 0 ∨ (zK a).2 ≤ j.toNatClampNeg) from hj), if_pos hk]; rfl)
theorem ze_bastoreZ {a N : Nat} {j x : Int32} (pc' : Nat) (hM : zM k = some M) (hd : decode M.2.1 pc = .ok (.bastore, 1)) (hk0 : zok h.1 a 101 = false) (hk : zok h.1 a 102 = true) (hN : (zK a).2 = N) (hj : vp_in j N) (hp : pc + 1 = pc') : zev sc (k, pc, ls, .int x :: .int j :: .ref a :: st, h) = zev sc (k, pc', ls, st, (h.1, zU h.2.1 a j.toNatClampNeg (vp_nar .boolean x), h.2.2.1, h.2.2.2)) := by
  subst hp; subst hN; exact ze_go hM hd rfl (by simp only [zins]; rw [if_pos (show ¬ (j < 0 ∨ (zK a).2 ≤ j.toNatClampNeg) from hj), if_neg (by rw [hk0]; decide), if_pos hk]; rfl)
theorem ze_aaload {a N q : Nat} {j : Int32} (pc' : Nat) (hM : zM k = some M) (hd : decode M.2.1 pc = .ok (.aaload, 1)) (hk : zok h.1 a 103 = true ∨ zok h.1 a 104 = true) (hN : (zK a).2 = N) (hj : vp_in j N) (hr : h.2.2.1 a j.toNatClampNeg = some q) (hp : pc + 1 = pc') : zev sc (k, pc, ls, .int j :: .ref a :: st, h) = zev sc (k, pc', ls, .ref q :: st, h) := by
  subst hp; subst hN; exact ze_go hM hd rfl (by simp only [zins]; rw [if_pos ⟨hk, hj⟩, hr]; rfl)
theorem ze_max {n q na : Nat} {x y : Int32} (pc' : Nat) (hM : zM k = some M) (hd : decode M.2.1 pc = .ok (.invokestatic n, 3)) (hm : zMr M.2.2.2.2.1 n = some (q, 5, na)) (hr : (Nat.ble 1 M.2.2.2.2.2.1 && (Nat.ble (zcat st) 8 && Nat.ble 21 M.2.2.2.2.2.2)) = true) (hp : pc + 3 = pc') : zev sc (k, pc, ls, .int y :: .int x :: st, h) = zev sc (k, pc', ls, .int (if x < y then y else x) :: st, h) := by
  subst hp
  simp only [Bool.and_eq_true, Nat.ble_eq] at hr
  exact ze_go hM hd rfl (by simp only [zins, hm]; rw [if_pos hr]; rfl)
theorem ze_min {n q na : Nat} {x y : Int32} (pc' : Nat) (hM : zM k = some M) (hd : decode M.2.1 pc = .ok (.invokestatic n, 3)) (hm : zMr M.2.2.2.2.1 n = some (q, 6, na)) (hr : (Nat.ble 1 M.2.2.2.2.2.1 && (Nat.ble (zcat st) 8 && Nat.ble 21 M.2.2.2.2.2.2)) = true) (hp : pc + 3 = pc') : zev sc (k, pc, ls, .int y :: .int x :: st, h) = zev sc (k, pc', ls, .int (if y < x then y else x) :: st, h) := by
  subst hp
  simp only [Bool.and_eq_true, Nat.ble_eq] at hr
  exact ze_go hM hd rfl (by simp only [zins, hm]; rw [if_pos hr]; rfl)
theorem ze_abs {n q na : Nat} {x : Int32} (pc' : Nat) (hM : zM k = some M) (hd : decode M.2.1 pc = .ok (.invokestatic n, 3)) (hm : zMr M.2.2.2.2.1 n = some (q, 7, na)) (hr : (Nat.ble 1 M.2.2.2.2.2.1 && (Nat.ble (zcat st) 8 && Nat.ble 21 M.2.2.2.2.2.2)) = true) (hp : pc + 3 = pc') : zev sc (k, pc, ls, .int x :: st, h) = zev sc (k, pc', ls, .int (if 0 ≤ x then x else 0 - x) :: st, h) := by
  subst hp
  simp only [Bool.and_eq_true, Nat.ble_eq] at hr
  exact ze_go hM hd rfl (by simp only [zins, hm]; rw [if_pos hr]; rfl)
theorem ze_copy {n q na a a0 : Nat} {cn sp dp : Int32} (pc' : Nat) (hM : zM k = some M) (hd : decode M.2.1 pc = .ok (.invokestatic n, 3)) (hm : zMr M.2.2.2.2.1 n = some (q, 8, na)) (hr : (Nat.ble 1 M.2.2.2.2.2.1 && (Nat.ble (zcat st) 8 && Nat.ble 26 M.2.2.2.2.2.2)) = true) (hk : zok h.1 a 100 = true) (hk0 : zok h.1 a0 100 = true) (h1 : ¬ sp < 0) (h2 : ¬ dp < 0) (h3 : ¬ cn < 0) (h4 : sp.toNatClampNeg + cn.toNatClampNeg ≤ (zK a0).2) (h5 : dp.toNatClampNeg + cn.toNatClampNeg ≤ (zK a).2) (hp : pc + 3 = pc') : zev sc (k, pc, ls, .int cn :: .int dp :: .ref a :: .int sp :: .ref a0 :: st, h) = zev sc (k, pc', ls, st, (h.1, zCp h.2.1 a0 a sp.toNatClampNeg dp.toNatClampNeg cn.toNatClampNeg, h.2.2.1, h.2.2.2)) := by
  subst hp
  simp only [Bool.and_eq_true, Nat.ble_eq] at hr
  exact ze_go hM hd rfl (by simp only [zins, hm]; rw [if_pos ⟨hr, hk, hk0, h1, h2, h3, h4, h5⟩]; rfl)
/-- a call, by its arguments -/
def zroom (N M : zMe) (rest as : List Value) : Bool := Nat.ble (N.2.2.2.2.2.1 + 1) M.2.2.2.2.2.1 && (Nat.ble (8 + (N.2.2.1 + 11) + N.2.2.2.2.2.2) M.2.2.2.2.2.2 && (Nat.ble (zcat rest) 8 && (Nat.ble as.length N.2.2.1 && zcat1 as)))
theorem zcall_of {as rest : List Value} {k' : Nat} {N : zMe} (hN : zM k' = some N) (hr : zroom N M rest as = true) : zcall k M pc ls as rest h k' = some (.inr (.inr ((k', 0, zent as N.2.2.1, [], h), fun x => (k, pc + 3, ls, if N.2.2.2.1 = none then rest else x.1 :: rest, x.2)))) := by
  unfold zcall
  rw [hN]
  simp only [zroom, Bool.and_eq_true, Nat.ble_eq] at hr
  dsimp only
  rw [if_pos hr]
theorem ze_virtI {n k' na a : Nat} {as rest : List Value} {N : zMe} {T : FieldType} {ls' : List (Option Value)} (pc' : Nat) (hM : zM k = some M) (hd : decode M.2.1 pc = .ok (.invokevirtual n, 3)) (hm : zMr M.2.2.2.2.1 n = some (k', 0, na)) (hN : zM k' = some N) (hT : N.2.2.2.1 = some T) (ha : as.length = na) (hk : zok h.1 a N.2.2.2.2.1 = true) (hr : zroom N M rest (.ref a :: as) = true) (hs : as.reverse ++ .ref a :: rest = st) (hl : zent (.ref a :: as) N.2.2.1 = ls') (hp : pc + 3 = pc') : zev sc (k, pc, ls, st, h) = (zev sc (k', 0, ls', [], h)).bind (fun x => zev sc (k, pc', ls, x.1 :: rest, x.2)) := by
  subst hp; subst hl; subst hs
  rw [ze_call (sf := ((k', 0, zent (.ref a :: as) N.2.2.1, [], h), fun x => (k, pc + 3, ls, if N.2.2.2.1 = none then rest else x.1 :: rest, x.2))) hM hd rfl ?_]
  · simp only [hT]
    rfl
  · simp only [zins, hm]
    have e1 : (as.reverse ++ .ref a :: rest).drop na = .ref a :: rest := by rw [← ha, ← List.length_reverse, List.drop_left]
    have e2 : (as.reverse ++ .ref a :: rest).take na = as.reverse := by rw [← ha, ← List.length_reverse, List.take_left]
    rw [e1, e2]
    dsimp only
    rw [if_pos ⟨by rw [hN]; simp [hk], by rw [List.length_reverse]; exact ha⟩, List.reverse_reverse]
    exact zcall_of hN hr
theorem ze_virtV {n k' na a : Nat} {as rest : List Value} {N : zMe} {ls' : List (Option Value)} (pc' : Nat) (hM : zM k = some M) (hd : decode M.2.1 pc = .ok (.invokevirtual n, 3)) (hm : zMr M.2.2.2.2.1 n = some (k', 0, na)) (hN : zM k' = some N) (hT : N.2.2.2.1 = none) (ha : as.length = na) (hk : zok h.1 a N.2.2.2.2.1 = true) (hr : zroom N M rest (.ref a :: as) = true) (hs : as.reverse ++ .ref a :: rest = st) (hl : zent (.ref a :: as) N.2.2.1 = ls') (hp : pc + 3 = pc') : zev sc (k, pc, ls, st, h) = (zev sc (k', 0, ls', [], h)).bind (fun x => zev sc (k, pc', ls, rest, x.2)) := by
  subst hp; subst hl; subst hs
  rw [ze_call (sf := ((k', 0, zent (.ref a :: as) N.2.2.1, [], h), fun x => (k, pc + 3, ls, if N.2.2.2.1 = none then rest else x.1 :: rest, x.2))) hM hd rfl ?_]
  · simp only [hT]
    rfl
  · simp only [zins, hm]
    have e1 : (as.reverse ++ .ref a :: rest).drop na = .ref a :: rest := by rw [← ha, ← List.length_reverse, List.drop_left]
    have e2 : (as.reverse ++ .ref a :: rest).take na = as.reverse := by rw [← ha, ← List.length_reverse, List.take_left]
    rw [e1, e2]
    dsimp only
    rw [if_pos ⟨by rw [hN]; simp [hk], by rw [List.length_reverse]; exact ha⟩, List.reverse_reverse]
    exact zcall_of hN hr
theorem ze_statI {n k' na : Nat} {as rest : List Value} {N : zMe} {T : FieldType} {ls' : List (Option Value)} (pc' : Nat) (hM : zM k = some M) (hd : decode M.2.1 pc = .ok (.invokestatic n, 3)) (hm : zMr M.2.2.2.2.1 n = some (k', 1, na)) (hN : zM k' = some N) (hT : N.2.2.2.1 = some T) (ha : as.length = na) (hr : zroom N M rest as = true) (hs : as.reverse ++ rest = st) (hl : zent as N.2.2.1 = ls') (hp : pc + 3 = pc') : zev sc (k, pc, ls, st, h) = (zev sc (k', 0, ls', [], h)).bind (fun x => zev sc (k, pc', ls, x.1 :: rest, x.2)) := by
  subst hp; subst hl; subst hs
  rw [ze_call (sf := ((k', 0, zent as N.2.2.1, [], h), fun x => (k, pc + 3, ls, if N.2.2.2.1 = none then rest else x.1 :: rest, x.2))) hM hd rfl ?_]
  · simp only [hT]
    rfl
  · simp only [zins, hm]
    have e1 : (as.reverse ++ rest).drop na = rest := by rw [← ha, ← List.length_reverse, List.drop_left]
    have e2 : (as.reverse ++ rest).take na = as.reverse := by rw [← ha, ← List.length_reverse, List.take_left]
    rw [e1, e2]
    rw [if_pos (by rw [List.length_reverse]; exact ha), List.reverse_reverse]
    exact zcall_of hN hr
theorem ze_spec {n k' na kd a : Nat} {as rest : List Value} {N : zMe} {ls' : List (Option Value)} (pc' : Nat) (hM : zM k = some M) (hd : decode M.2.1 pc = .ok (.invokespecial n, 3)) (hm : zMr M.2.2.2.2.1 n = some (k', kd, na)) (hkd : kd = 2 ∨ kd = 3) (hN : zM k' = some N) (hT : N.2.2.2.1 = none) (ha : as.length = na) (hr : zroom N M rest (.ref a :: as) = true) (hs : as.reverse ++ .ref a :: rest = st) (hl : zent (.ref a :: as) N.2.2.1 = ls') (hp : pc + 3 = pc') : zev sc (k, pc, ls, st, h) = (zev sc (k', 0, ls', [], h)).bind (fun x => zev sc (k, pc', ls, rest, x.2)) := by
  subst hp; subst hl; subst hs
  rw [ze_call (sf := ((k', 0, zent (.ref a :: as) N.2.2.1, [], h), fun x => (k, pc + 3, ls, if N.2.2.2.1 = none then rest else x.1 :: rest, x.2))) hM hd rfl ?_]
  · simp only [hT]
    rfl
  · have e1 : (as.reverse ++ .ref a :: rest).drop na = .ref a :: rest := by rw [← ha, ← List.length_reverse, List.drop_left]
    have e2 : (as.reverse ++ .ref a :: rest).take na = as.reverse := by rw [← ha, ← List.length_reverse, List.take_left]
    rcases hkd with rfl | rfl <;> (simp only [zins, hm]; rw [e1, e2]; dsimp only; rw [if_pos (by rw [List.length_reverse]; exact ha), List.reverse_reverse]; exact zcall_of hN hr)
theorem ze_ireturn {x : Int32} (hM : zM k = some M) (hd : decode M.2.1 pc = .ok (.ireturn, 1)) (hr : M.2.2.2.1 = some .int) : zev sc (k, pc, ls, [.int x], h) = some (.int x, h) :=
  ze_ret hM hd rfl (by simp only [zins]; rw [if_pos (Or.inl hr)])
theorem ze_zreturn {x : Int32} (hM : zM k = some M) (hd : decode M.2.1 pc = .ok (.ireturn, 1)) (hr : M.2.2.2.1 = some .boolean) (hx : x = 0 ∨ x = 1) : zev sc (k, pc, ls, [.int x], h) = some (.int x, h) :=
  ze_ret hM hd rfl (by simp only [zins]; rw [if_pos (Or.inr ⟨hr, hx⟩)])
theorem ze_lreturn {x : Int64} (hM : zM k = some M) (hd : decode M.2.1 pc = .ok (.lreturn, 1)) (hr : M.2.2.2.1 = some .long) : zev sc (k, pc, ls, [.long x], h) = some (.long x, h) :=
  ze_ret hM hd rfl (by simp only [zins]; rw [if_pos hr])
theorem ze_return (hM : zM k = some M) (hd : decode M.2.1 pc = .ok (.return_, 1)) (hr : M.2.2.2.1 = none) : zev sc (k, pc, ls, [], h) = some (.null, h) :=
  ze_ret hM hd rfl (by simp only [zins]; rw [if_pos hr])
end ZE
end
section
theorem dX0_init_0 : decode cX0_init 0 = .ok (.aload_n 0, 1) := by decide +kernel
theorem dX0_init_1 : decode cX0_init 1 = .ok (.invokespecial 3, 3) := by decide +kernel
theorem dX0_init_4 : decode cX0_init 4 = .ok (.aload_n 0, 1) := by decide +kernel
theorem dX0_init_5 : decode cX0_init 5 = .ok (.bipush 8, 2) := by decide +kernel
theorem dX0_init_7 : decode cX0_init 7 = .ok (.bipush 8, 2) := by decide +kernel
theorem dX0_init_9 : decode cX0_init 9 = .ok (.invokestatic 9, 3) := by decide +kernel
theorem dX0_init_12 : decode cX0_init 12 = .ok (.newarray .int, 2) := by decide +kernel
theorem dX0_init_14 : decode cX0_init 14 = .ok (.putfield 15, 3) := by decide +kernel
theorem dX0_init_17 : decode cX0_init 17 = .ok (.aload_n 0, 1) := by decide +kernel
theorem dX0_init_18 : decode cX0_init 18 = .ok (.bipush 8, 2) := by decide +kernel
theorem dX0_init_20 : decode cX0_init 20 = .ok (.newarray .int, 2) := by decide +kernel
theorem dX0_init_22 : decode cX0_init 22 = .ok (.putfield 21, 3) := by decide +kernel
theorem dX0_init_25 : decode cX0_init 25 = .ok (.aload_n 0, 1) := by decide +kernel
theorem dX0_init_26 : decode cX0_init 26 = .ok (.sipush 256, 3) := by decide +kernel
theorem dX0_init_29 : decode cX0_init 29 = .ok (.newarray .int, 2) := by decide +kernel
theorem dX0_init_31 : decode cX0_init 31 = .ok (.putfield 24, 3) := by decide +kernel
theorem dX0_init_34 : decode cX0_init 34 = .ok (.aload_n 0, 1) := by decide +kernel
theorem dX0_init_35 : decode cX0_init 35 = .ok (.aload_n 1, 1) := by decide +kernel
theorem dX0_init_36 : decode cX0_init 36 = .ok (.putfield 27, 3) := by decide +kernel
theorem dX0_init_39 : decode cX0_init 39 = .ok (.aload_n 0, 1) := by decide +kernel
theorem dX0_init_40 : decode cX0_init 40 = .ok (.aload_n 1, 1) := by decide +kernel
theorem dX0_init_41 : decode cX0_init 41 = .ok (.getfield 31, 3) := by decide +kernel
theorem dX0_init_44 : decode cX0_init 44 = .ok (.putfield 37, 3) := by decide +kernel
theorem dX0_init_47 : decode cX0_init 47 = .ok (.return_, 1) := by decide +kernel
theorem dX0_alike_0 : decode cX0_alike 0 = .ok (.aload_n 0, 1) := by decide +kernel
theorem dX0_alike_1 : decode cX0_alike 1 = .ok (.invokevirtual 38, 3) := by decide +kernel
theorem dX0_alike_4 : decode cX0_alike 4 = .ok (.iconst 0, 1) := by decide +kernel
theorem dX0_alike_5 : decode cX0_alike 5 = .ok (.istore_n 1, 1) := by decide +kernel
theorem dX0_alike_6 : decode cX0_alike 6 = .ok (.iconst 0, 1) := by decide +kernel
theorem dX0_alike_7 : decode cX0_alike 7 = .ok (.istore_n 2, 1) := by decide +kernel
theorem dX0_alike_8 : decode cX0_alike 8 = .ok (.iload_n 2, 1) := by decide +kernel
theorem dX0_alike_9 : decode cX0_alike 9 = .ok (.aload_n 0, 1) := by decide +kernel
theorem dX0_alike_10 : decode cX0_alike 10 = .ok (.getfield 37, 3) := by decide +kernel
theorem dX0_alike_13 : decode cX0_alike 13 = .ok (.getfield 41, 3) := by decide +kernel
theorem dX0_alike_16 : decode cX0_alike 16 = .ok (.if_icmp .ge 21, 3) := by decide +kernel
theorem dX0_alike_19 : decode cX0_alike 19 = .ok (.iload_n 1, 1) := by decide +kernel
theorem dX0_alike_20 : decode cX0_alike 20 = .ok (.aload_n 0, 1) := by decide +kernel
theorem dX0_alike_21 : decode cX0_alike 21 = .ok (.getfield 15, 3) := by decide +kernel
theorem dX0_alike_24 : decode cX0_alike 24 = .ok (.iload_n 2, 1) := by decide +kernel
theorem dX0_alike_25 : decode cX0_alike 25 = .ok (.iaload, 1) := by decide +kernel
theorem dX0_alike_26 : decode cX0_alike 26 = .ok (.invokestatic 47, 3) := by decide +kernel
theorem dX0_alike_29 : decode cX0_alike 29 = .ok (.iadd, 1) := by decide +kernel
theorem dX0_alike_30 : decode cX0_alike 30 = .ok (.istore_n 1, 1) := by decide +kernel
theorem dX0_alike_31 : decode cX0_alike 31 = .ok (.iinc 2 1, 3) := by decide +kernel
theorem dX0_alike_34 : decode cX0_alike 34 = .ok (.goto (-26), 3) := by decide +kernel
theorem dX0_alike_37 : decode cX0_alike 37 = .ok (.iload_n 1, 1) := by decide +kernel
theorem dX0_alike_38 : decode cX0_alike 38 = .ok (.iconst 2, 1) := by decide +kernel
theorem dX0_alike_39 : decode cX0_alike 39 = .ok (.idiv, 1) := by decide +kernel
theorem dX0_alike_40 : decode cX0_alike 40 = .ok (.ireturn, 1) := by decide +kernel
theorem dX0_fewestTuned_0 : decode cX0_fewestTuned 0 = .ok (.aload_n 0, 1) := by decide +kernel
theorem dX0_fewestTuned_1 : decode cX0_fewestTuned 1 = .ok (.invokevirtual 38, 3) := by decide +kernel
theorem dX0_fewestTuned_4 : decode cX0_fewestTuned 4 = .ok (.aload_n 0, 1) := by decide +kernel
theorem dX0_fewestTuned_5 : decode cX0_fewestTuned 5 = .ok (.aload_n 0, 1) := by decide +kernel
theorem dX0_fewestTuned_6 : decode cX0_fewestTuned 6 = .ok (.getfield 37, 3) := by decide +kernel
theorem dX0_fewestTuned_9 : decode cX0_fewestTuned 9 = .ok (.getfield 41, 3) := by decide +kernel
theorem dX0_fewestTuned_12 : decode cX0_fewestTuned 12 = .ok (.invokevirtual 53, 3) := by decide +kernel
theorem dX0_fewestTuned_15 : decode cX0_fewestTuned 15 = .ok (.ireturn, 1) := by decide +kernel
theorem dX0_fewestEars_0 : decode cX0_fewestEars 0 = .ok (.iconst 0, 1) := by decide +kernel
theorem dX0_fewestEars_1 : decode cX0_fewestEars 1 = .ok (.istore_n 1, 1) := by decide +kernel
theorem dX0_fewestEars_2 : decode cX0_fewestEars 2 = .ok (.iload_n 1, 1) := by decide +kernel
theorem dX0_fewestEars_3 : decode cX0_fewestEars 3 = .ok (.aload_n 0, 1) := by decide +kernel
theorem dX0_fewestEars_4 : decode cX0_fewestEars 4 = .ok (.getfield 37, 3) := by decide +kernel
theorem dX0_fewestEars_7 : decode cX0_fewestEars 7 = .ok (.getfield 56, 3) := by decide +kernel
theorem dX0_fewestEars_10 : decode cX0_fewestEars 10 = .ok (.if_icmp .ge 16, 3) := by decide +kernel
theorem dX0_fewestEars_13 : decode cX0_fewestEars 13 = .ok (.aload_n 0, 1) := by decide +kernel
theorem dX0_fewestEars_14 : decode cX0_fewestEars 14 = .ok (.getfield 15, 3) := by decide +kernel
theorem dX0_fewestEars_17 : decode cX0_fewestEars 17 = .ok (.iload_n 1, 1) := by decide +kernel
theorem dX0_fewestEars_18 : decode cX0_fewestEars 18 = .ok (.iconst 0, 1) := by decide +kernel
theorem dX0_fewestEars_19 : decode cX0_fewestEars 19 = .ok (.iastore, 1) := by decide +kernel
theorem dX0_fewestEars_20 : decode cX0_fewestEars 20 = .ok (.iinc 1 1, 3) := by decide +kernel
theorem dX0_fewestEars_23 : decode cX0_fewestEars 23 = .ok (.goto (-21), 3) := by decide +kernel
theorem dX0_fewestEars_26 : decode cX0_fewestEars 26 = .ok (.iconst 0, 1) := by decide +kernel
theorem dX0_fewestEars_27 : decode cX0_fewestEars 27 = .ok (.istore_n 1, 1) := by decide +kernel
theorem dX0_fewestEars_28 : decode cX0_fewestEars 28 = .ok (.iload_n 1, 1) := by decide +kernel
theorem dX0_fewestEars_29 : decode cX0_fewestEars 29 = .ok (.aload_n 0, 1) := by decide +kernel
theorem dX0_fewestEars_30 : decode cX0_fewestEars 30 = .ok (.getfield 37, 3) := by decide +kernel
theorem dX0_fewestEars_33 : decode cX0_fewestEars 33 = .ok (.getfield 41, 3) := by decide +kernel
theorem dX0_fewestEars_36 : decode cX0_fewestEars 36 = .ok (.if_icmp .ge 76, 3) := by decide +kernel
theorem dX0_fewestEars_39 : decode cX0_fewestEars 39 = .ok (.aload_n 0, 1) := by decide +kernel
theorem dX0_fewestEars_40 : decode cX0_fewestEars 40 = .ok (.getfield 27, 3) := by decide +kernel
theorem dX0_fewestEars_43 : decode cX0_fewestEars 43 = .ok (.iload_n 1, 1) := by decide +kernel
theorem dX0_fewestEars_44 : decode cX0_fewestEars 44 = .ok (.invokevirtual 59, 3) := by decide +kernel
theorem dX0_fewestEars_47 : decode cX0_fewestEars 47 = .ok (.ifCond .eq 59, 3) := by decide +kernel
theorem dX0_fewestEars_50 : decode cX0_fewestEars 50 = .ok (.aload_n 0, 1) := by decide +kernel
theorem dX0_fewestEars_51 : decode cX0_fewestEars 51 = .ok (.getfield 15, 3) := by decide +kernel
theorem dX0_fewestEars_54 : decode cX0_fewestEars 54 = .ok (.aload_n 0, 1) := by decide +kernel
theorem dX0_fewestEars_55 : decode cX0_fewestEars 55 = .ok (.getfield 37, 3) := by decide +kernel
theorem dX0_fewestEars_58 : decode cX0_fewestEars 58 = .ok (.getfield 63, 3) := by decide +kernel
theorem dX0_fewestEars_61 : decode cX0_fewestEars 61 = .ok (.iload_n 1, 1) := by decide +kernel
theorem dX0_fewestEars_62 : decode cX0_fewestEars 62 = .ok (.iaload, 1) := by decide +kernel
theorem dX0_fewestEars_63 : decode cX0_fewestEars 63 = .ok (.dup2, 1) := by decide +kernel
theorem dX0_fewestEars_64 : decode cX0_fewestEars 64 = .ok (.iaload, 1) := by decide +kernel
theorem dX0_fewestEars_65 : decode cX0_fewestEars 65 = .ok (.iconst 1, 1) := by decide +kernel
theorem dX0_fewestEars_66 : decode cX0_fewestEars 66 = .ok (.aload_n 0, 1) := by decide +kernel
theorem dX0_fewestEars_67 : decode cX0_fewestEars 67 = .ok (.getfield 37, 3) := by decide +kernel
theorem dX0_fewestEars_70 : decode cX0_fewestEars 70 = .ok (.getfield 66, 3) := by decide +kernel
theorem dX0_fewestEars_73 : decode cX0_fewestEars 73 = .ok (.iload_n 1, 1) := by decide +kernel
theorem dX0_fewestEars_74 : decode cX0_fewestEars 74 = .ok (.iaload, 1) := by decide +kernel
theorem dX0_fewestEars_75 : decode cX0_fewestEars 75 = .ok (.ishl, 1) := by decide +kernel
theorem dX0_fewestEars_76 : decode cX0_fewestEars 76 = .ok (.ior, 1) := by decide +kernel
theorem dX0_fewestEars_77 : decode cX0_fewestEars 77 = .ok (.iastore, 1) := by decide +kernel
theorem dX0_fewestEars_78 : decode cX0_fewestEars 78 = .ok (.aload_n 0, 1) := by decide +kernel
theorem dX0_fewestEars_79 : decode cX0_fewestEars 79 = .ok (.getfield 15, 3) := by decide +kernel
theorem dX0_fewestEars_82 : decode cX0_fewestEars 82 = .ok (.aload_n 0, 1) := by decide +kernel
theorem dX0_fewestEars_83 : decode cX0_fewestEars 83 = .ok (.getfield 37, 3) := by decide +kernel
theorem dX0_fewestEars_86 : decode cX0_fewestEars 86 = .ok (.getfield 66, 3) := by decide +kernel
theorem dX0_fewestEars_89 : decode cX0_fewestEars 89 = .ok (.iload_n 1, 1) := by decide +kernel
theorem dX0_fewestEars_90 : decode cX0_fewestEars 90 = .ok (.iaload, 1) := by decide +kernel
theorem dX0_fewestEars_91 : decode cX0_fewestEars 91 = .ok (.dup2, 1) := by decide +kernel
theorem dX0_fewestEars_92 : decode cX0_fewestEars 92 = .ok (.iaload, 1) := by decide +kernel
theorem dX0_fewestEars_93 : decode cX0_fewestEars 93 = .ok (.iconst 1, 1) := by decide +kernel
theorem dX0_fewestEars_94 : decode cX0_fewestEars 94 = .ok (.aload_n 0, 1) := by decide +kernel
theorem dX0_fewestEars_95 : decode cX0_fewestEars 95 = .ok (.getfield 37, 3) := by decide +kernel
theorem dX0_fewestEars_98 : decode cX0_fewestEars 98 = .ok (.getfield 63, 3) := by decide +kernel
theorem dX0_fewestEars_101 : decode cX0_fewestEars 101 = .ok (.iload_n 1, 1) := by decide +kernel
theorem dX0_fewestEars_102 : decode cX0_fewestEars 102 = .ok (.iaload, 1) := by decide +kernel
theorem dX0_fewestEars_103 : decode cX0_fewestEars 103 = .ok (.ishl, 1) := by decide +kernel
theorem dX0_fewestEars_104 : decode cX0_fewestEars 104 = .ok (.ior, 1) := by decide +kernel
theorem dX0_fewestEars_105 : decode cX0_fewestEars 105 = .ok (.iastore, 1) := by decide +kernel
theorem dX0_fewestEars_106 : decode cX0_fewestEars 106 = .ok (.iinc 1 1, 3) := by decide +kernel
theorem dX0_fewestEars_109 : decode cX0_fewestEars 109 = .ok (.goto (-81), 3) := by decide +kernel
theorem dX0_fewestEars_112 : decode cX0_fewestEars 112 = .ok (.aload_n 0, 1) := by decide +kernel
theorem dX0_fewestEars_113 : decode cX0_fewestEars 113 = .ok (.aload_n 0, 1) := by decide +kernel
theorem dX0_fewestEars_114 : decode cX0_fewestEars 114 = .ok (.getfield 37, 3) := by decide +kernel
theorem dX0_fewestEars_117 : decode cX0_fewestEars 117 = .ok (.getfield 56, 3) := by decide +kernel
theorem dX0_fewestEars_120 : decode cX0_fewestEars 120 = .ok (.invokevirtual 53, 3) := by decide +kernel
theorem dX0_fewestEars_123 : decode cX0_fewestEars 123 = .ok (.ireturn, 1) := by decide +kernel
theorem dX0_partnerAlikes_0 : decode cX0_partnerAlikes 0 = .ok (.iconst 0, 1) := by decide +kernel
theorem dX0_partnerAlikes_1 : decode cX0_partnerAlikes 1 = .ok (.istore_n 1, 1) := by decide +kernel
theorem dX0_partnerAlikes_2 : decode cX0_partnerAlikes 2 = .ok (.iload_n 1, 1) := by decide +kernel
theorem dX0_partnerAlikes_3 : decode cX0_partnerAlikes 3 = .ok (.aload_n 0, 1) := by decide +kernel
theorem dX0_partnerAlikes_4 : decode cX0_partnerAlikes 4 = .ok (.getfield 37, 3) := by decide +kernel
theorem dX0_partnerAlikes_7 : decode cX0_partnerAlikes 7 = .ok (.getfield 41, 3) := by decide +kernel
theorem dX0_partnerAlikes_10 : decode cX0_partnerAlikes 10 = .ok (.if_icmp .ge 61, 3) := by decide +kernel
theorem dX0_partnerAlikes_13 : decode cX0_partnerAlikes 13 = .ok (.aload_n 0, 1) := by decide +kernel
theorem dX0_partnerAlikes_14 : decode cX0_partnerAlikes 14 = .ok (.getfield 15, 3) := by decide +kernel
theorem dX0_partnerAlikes_17 : decode cX0_partnerAlikes 17 = .ok (.iload_n 1, 1) := by decide +kernel
theorem dX0_partnerAlikes_18 : decode cX0_partnerAlikes 18 = .ok (.iconst 0, 1) := by decide +kernel
theorem dX0_partnerAlikes_19 : decode cX0_partnerAlikes 19 = .ok (.iastore, 1) := by decide +kernel
theorem dX0_partnerAlikes_20 : decode cX0_partnerAlikes 20 = .ok (.iconst 0, 1) := by decide +kernel
theorem dX0_partnerAlikes_21 : decode cX0_partnerAlikes 21 = .ok (.istore_n 2, 1) := by decide +kernel
theorem dX0_partnerAlikes_22 : decode cX0_partnerAlikes 22 = .ok (.iload_n 2, 1) := by decide +kernel
theorem dX0_partnerAlikes_23 : decode cX0_partnerAlikes 23 = .ok (.aload_n 0, 1) := by decide +kernel
theorem dX0_partnerAlikes_24 : decode cX0_partnerAlikes 24 = .ok (.getfield 37, 3) := by decide +kernel
theorem dX0_partnerAlikes_27 : decode cX0_partnerAlikes 27 = .ok (.getfield 41, 3) := by decide +kernel
theorem dX0_partnerAlikes_30 : decode cX0_partnerAlikes 30 = .ok (.if_icmp .ge 35, 3) := by decide +kernel
theorem dX0_partnerAlikes_33 : decode cX0_partnerAlikes 33 = .ok (.iload_n 1, 1) := by decide +kernel
theorem dX0_partnerAlikes_34 : decode cX0_partnerAlikes 34 = .ok (.iload_n 2, 1) := by decide +kernel
theorem dX0_partnerAlikes_35 : decode cX0_partnerAlikes 35 = .ok (.if_icmp .eq 24, 3) := by decide +kernel
theorem dX0_partnerAlikes_38 : decode cX0_partnerAlikes 38 = .ok (.aload_n 0, 1) := by decide +kernel
theorem dX0_partnerAlikes_39 : decode cX0_partnerAlikes 39 = .ok (.iload_n 1, 1) := by decide +kernel
theorem dX0_partnerAlikes_40 : decode cX0_partnerAlikes 40 = .ok (.iload_n 2, 1) := by decide +kernel
theorem dX0_partnerAlikes_41 : decode cX0_partnerAlikes 41 = .ok (.invokevirtual 69, 3) := by decide +kernel
theorem dX0_partnerAlikes_44 : decode cX0_partnerAlikes 44 = .ok (.ifCond .eq 15, 3) := by decide +kernel
theorem dX0_partnerAlikes_47 : decode cX0_partnerAlikes 47 = .ok (.aload_n 0, 1) := by decide +kernel
theorem dX0_partnerAlikes_48 : decode cX0_partnerAlikes 48 = .ok (.getfield 15, 3) := by decide +kernel
theorem dX0_partnerAlikes_51 : decode cX0_partnerAlikes 51 = .ok (.iload_n 1, 1) := by decide +kernel
theorem dX0_partnerAlikes_52 : decode cX0_partnerAlikes 52 = .ok (.dup2, 1) := by decide +kernel
theorem dX0_partnerAlikes_53 : decode cX0_partnerAlikes 53 = .ok (.iaload, 1) := by decide +kernel
theorem dX0_partnerAlikes_54 : decode cX0_partnerAlikes 54 = .ok (.iconst 1, 1) := by decide +kernel
theorem dX0_partnerAlikes_55 : decode cX0_partnerAlikes 55 = .ok (.iload_n 2, 1) := by decide +kernel
theorem dX0_partnerAlikes_56 : decode cX0_partnerAlikes 56 = .ok (.ishl, 1) := by decide +kernel
theorem dX0_partnerAlikes_57 : decode cX0_partnerAlikes 57 = .ok (.ior, 1) := by decide +kernel
theorem dX0_partnerAlikes_58 : decode cX0_partnerAlikes 58 = .ok (.iastore, 1) := by decide +kernel
theorem dX0_partnerAlikes_59 : decode cX0_partnerAlikes 59 = .ok (.iinc 2 1, 3) := by decide +kernel
theorem dX0_partnerAlikes_62 : decode cX0_partnerAlikes 62 = .ok (.goto (-40), 3) := by decide +kernel
theorem dX0_partnerAlikes_65 : decode cX0_partnerAlikes 65 = .ok (.iinc 1 1, 3) := by decide +kernel
theorem dX0_partnerAlikes_68 : decode cX0_partnerAlikes 68 = .ok (.goto (-66), 3) := by decide +kernel
theorem dX0_partnerAlikes_71 : decode cX0_partnerAlikes 71 = .ok (.return_, 1) := by decide +kernel
theorem dX0_areAlike_0 : decode cX0_areAlike 0 = .ok (.aload_n 0, 1) := by decide +kernel
theorem dX0_areAlike_1 : decode cX0_areAlike 1 = .ok (.getfield 27, 3) := by decide +kernel
theorem dX0_areAlike_4 : decode cX0_areAlike 4 = .ok (.iload_n 1, 1) := by decide +kernel
theorem dX0_areAlike_5 : decode cX0_areAlike 5 = .ok (.invokevirtual 59, 3) := by decide +kernel
theorem dX0_areAlike_8 : decode cX0_areAlike 8 = .ok (.ifCond .eq 65, 3) := by decide +kernel
theorem dX0_areAlike_11 : decode cX0_areAlike 11 = .ok (.aload_n 0, 1) := by decide +kernel
theorem dX0_areAlike_12 : decode cX0_areAlike 12 = .ok (.getfield 27, 3) := by decide +kernel
theorem dX0_areAlike_15 : decode cX0_areAlike 15 = .ok (.iload_n 2, 1) := by decide +kernel
theorem dX0_areAlike_16 : decode cX0_areAlike 16 = .ok (.invokevirtual 59, 3) := by decide +kernel
theorem dX0_areAlike_19 : decode cX0_areAlike 19 = .ok (.ifCond .eq 54, 3) := by decide +kernel
theorem dX0_areAlike_22 : decode cX0_areAlike 22 = .ok (.aload_n 0, 1) := by decide +kernel
theorem dX0_areAlike_23 : decode cX0_areAlike 23 = .ok (.getfield 27, 3) := by decide +kernel
theorem dX0_areAlike_26 : decode cX0_areAlike 26 = .ok (.getfield 73, 3) := by decide +kernel
theorem dX0_areAlike_29 : decode cX0_areAlike 29 = .ok (.getfield 77, 3) := by decide +kernel
theorem dX0_areAlike_32 : decode cX0_areAlike 32 = .ok (.iload_n 1, 1) := by decide +kernel
theorem dX0_areAlike_33 : decode cX0_areAlike 33 = .ok (.iaload, 1) := by decide +kernel
theorem dX0_areAlike_34 : decode cX0_areAlike 34 = .ok (.aload_n 0, 1) := by decide +kernel
theorem dX0_areAlike_35 : decode cX0_areAlike 35 = .ok (.getfield 27, 3) := by decide +kernel
theorem dX0_areAlike_38 : decode cX0_areAlike 38 = .ok (.getfield 73, 3) := by decide +kernel
theorem dX0_areAlike_41 : decode cX0_areAlike 41 = .ok (.getfield 77, 3) := by decide +kernel
theorem dX0_areAlike_44 : decode cX0_areAlike 44 = .ok (.iload_n 2, 1) := by decide +kernel
theorem dX0_areAlike_45 : decode cX0_areAlike 45 = .ok (.iaload, 1) := by decide +kernel
theorem dX0_areAlike_46 : decode cX0_areAlike 46 = .ok (.if_icmp .ne 27, 3) := by decide +kernel
theorem dX0_areAlike_49 : decode cX0_areAlike 49 = .ok (.aload_n 0, 1) := by decide +kernel
theorem dX0_areAlike_50 : decode cX0_areAlike 50 = .ok (.getfield 37, 3) := by decide +kernel
theorem dX0_areAlike_53 : decode cX0_areAlike 53 = .ok (.iload_n 1, 1) := by decide +kernel
theorem dX0_areAlike_54 : decode cX0_areAlike 54 = .ok (.invokevirtual 82, 3) := by decide +kernel
theorem dX0_areAlike_57 : decode cX0_areAlike 57 = .ok (.aload_n 0, 1) := by decide +kernel
theorem dX0_areAlike_58 : decode cX0_areAlike 58 = .ok (.getfield 37, 3) := by decide +kernel
theorem dX0_areAlike_61 : decode cX0_areAlike 61 = .ok (.iload_n 2, 1) := by decide +kernel
theorem dX0_areAlike_62 : decode cX0_areAlike 62 = .ok (.invokevirtual 82, 3) := by decide +kernel
theorem dX0_areAlike_65 : decode cX0_areAlike 65 = .ok (.iand, 1) := by decide +kernel
theorem dX0_areAlike_66 : decode cX0_areAlike 66 = .ok (.ifCond .eq 7, 3) := by decide +kernel
theorem dX0_areAlike_69 : decode cX0_areAlike 69 = .ok (.iconst 1, 1) := by decide +kernel
theorem dX0_areAlike_70 : decode cX0_areAlike 70 = .ok (.goto 4, 3) := by decide +kernel
theorem dX0_areAlike_73 : decode cX0_areAlike 73 = .ok (.iconst 0, 1) := by decide +kernel
theorem dX0_areAlike_74 : decode cX0_areAlike 74 = .ok (.ireturn, 1) := by decide +kernel
theorem dX0_fewestOfEachTwo_0 : decode cX0_fewestOfEachTwo 0 = .ok (.iconst 1, 1) := by decide +kernel
theorem dX0_fewestOfEachTwo_1 : decode cX0_fewestOfEachTwo 1 = .ok (.iload_n 1, 1) := by decide +kernel
theorem dX0_fewestOfEachTwo_2 : decode cX0_fewestOfEachTwo 2 = .ok (.ishl, 1) := by decide +kernel
theorem dX0_fewestOfEachTwo_3 : decode cX0_fewestOfEachTwo 3 = .ok (.iconst 1, 1) := by decide +kernel
theorem dX0_fewestOfEachTwo_4 : decode cX0_fewestOfEachTwo 4 = .ok (.isub, 1) := by decide +kernel
theorem dX0_fewestOfEachTwo_5 : decode cX0_fewestOfEachTwo 5 = .ok (.istore_n 2, 1) := by decide +kernel
theorem dX0_fewestOfEachTwo_6 : decode cX0_fewestOfEachTwo 6 = .ok (.iconst 0, 1) := by decide +kernel
theorem dX0_fewestOfEachTwo_7 : decode cX0_fewestOfEachTwo 7 = .ok (.istore_n 3, 1) := by decide +kernel
theorem dX0_fewestOfEachTwo_8 : decode cX0_fewestOfEachTwo 8 = .ok (.iload_n 3, 1) := by decide +kernel
theorem dX0_fewestOfEachTwo_9 : decode cX0_fewestOfEachTwo 9 = .ok (.iconst 1, 1) := by decide +kernel
theorem dX0_fewestOfEachTwo_10 : decode cX0_fewestOfEachTwo 10 = .ok (.iload_n 1, 1) := by decide +kernel
theorem dX0_fewestOfEachTwo_11 : decode cX0_fewestOfEachTwo 11 = .ok (.ishl, 1) := by decide +kernel
theorem dX0_fewestOfEachTwo_12 : decode cX0_fewestOfEachTwo 12 = .ok (.if_icmp .ge 31, 3) := by decide +kernel
theorem dX0_fewestOfEachTwo_15 : decode cX0_fewestOfEachTwo 15 = .ok (.iload_n 3, 1) := by decide +kernel
theorem dX0_fewestOfEachTwo_16 : decode cX0_fewestOfEachTwo 16 = .ok (.invokestatic 47, 3) := by decide +kernel
theorem dX0_fewestOfEachTwo_19 : decode cX0_fewestOfEachTwo 19 = .ok (.iload_n 2, 1) := by decide +kernel
theorem dX0_fewestOfEachTwo_20 : decode cX0_fewestOfEachTwo 20 = .ok (.invokestatic 47, 3) := by decide +kernel
theorem dX0_fewestOfEachTwo_23 : decode cX0_fewestOfEachTwo 23 = .ok (.if_icmp .ge 14, 3) := by decide +kernel
theorem dX0_fewestOfEachTwo_26 : decode cX0_fewestOfEachTwo 26 = .ok (.aload_n 0, 1) := by decide +kernel
theorem dX0_fewestOfEachTwo_27 : decode cX0_fewestOfEachTwo 27 = .ok (.iload_n 3, 1) := by decide +kernel
theorem dX0_fewestOfEachTwo_28 : decode cX0_fewestOfEachTwo 28 = .ok (.iload_n 1, 1) := by decide +kernel
theorem dX0_fewestOfEachTwo_29 : decode cX0_fewestOfEachTwo 29 = .ok (.invokevirtual 85, 3) := by decide +kernel
theorem dX0_fewestOfEachTwo_32 : decode cX0_fewestOfEachTwo 32 = .ok (.ifCond .eq 5, 3) := by decide +kernel
theorem dX0_fewestOfEachTwo_35 : decode cX0_fewestOfEachTwo 35 = .ok (.iload_n 3, 1) := by decide +kernel
theorem dX0_fewestOfEachTwo_36 : decode cX0_fewestOfEachTwo 36 = .ok (.istore_n 2, 1) := by decide +kernel
theorem dX0_fewestOfEachTwo_37 : decode cX0_fewestOfEachTwo 37 = .ok (.iinc 3 1, 3) := by decide +kernel
theorem dX0_fewestOfEachTwo_40 : decode cX0_fewestOfEachTwo 40 = .ok (.goto (-32), 3) := by decide +kernel
theorem dX0_fewestOfEachTwo_43 : decode cX0_fewestOfEachTwo 43 = .ok (.iload_n 2, 1) := by decide +kernel
theorem dX0_fewestOfEachTwo_44 : decode cX0_fewestOfEachTwo 44 = .ok (.ireturn, 1) := by decide +kernel
theorem dX0_hasOneOfEachTwo_0 : decode cX0_hasOneOfEachTwo 0 = .ok (.iconst 0, 1) := by decide +kernel
theorem dX0_hasOneOfEachTwo_1 : decode cX0_hasOneOfEachTwo 1 = .ok (.istore_n 3, 1) := by decide +kernel
theorem dX0_hasOneOfEachTwo_2 : decode cX0_hasOneOfEachTwo 2 = .ok (.iload_n 3, 1) := by decide +kernel
theorem dX0_hasOneOfEachTwo_3 : decode cX0_hasOneOfEachTwo 3 = .ok (.iload_n 2, 1) := by decide +kernel
theorem dX0_hasOneOfEachTwo_4 : decode cX0_hasOneOfEachTwo 4 = .ok (.if_icmp .ge 32, 3) := by decide +kernel
theorem dX0_hasOneOfEachTwo_7 : decode cX0_hasOneOfEachTwo 7 = .ok (.iload_n 1, 1) := by decide +kernel
theorem dX0_hasOneOfEachTwo_8 : decode cX0_hasOneOfEachTwo 8 = .ok (.iload_n 3, 1) := by decide +kernel
theorem dX0_hasOneOfEachTwo_9 : decode cX0_hasOneOfEachTwo 9 = .ok (.ishr, 1) := by decide +kernel
theorem dX0_hasOneOfEachTwo_10 : decode cX0_hasOneOfEachTwo 10 = .ok (.iconst 1, 1) := by decide +kernel
theorem dX0_hasOneOfEachTwo_11 : decode cX0_hasOneOfEachTwo 11 = .ok (.iand, 1) := by decide +kernel
theorem dX0_hasOneOfEachTwo_12 : decode cX0_hasOneOfEachTwo 12 = .ok (.ifCond .ne 18, 3) := by decide +kernel
theorem dX0_hasOneOfEachTwo_15 : decode cX0_hasOneOfEachTwo 15 = .ok (.aload_n 0, 1) := by decide +kernel
theorem dX0_hasOneOfEachTwo_16 : decode cX0_hasOneOfEachTwo 16 = .ok (.getfield 15, 3) := by decide +kernel
theorem dX0_hasOneOfEachTwo_19 : decode cX0_hasOneOfEachTwo 19 = .ok (.iload_n 3, 1) := by decide +kernel
theorem dX0_hasOneOfEachTwo_20 : decode cX0_hasOneOfEachTwo 20 = .ok (.iaload, 1) := by decide +kernel
theorem dX0_hasOneOfEachTwo_21 : decode cX0_hasOneOfEachTwo 21 = .ok (.iload_n 1, 1) := by decide +kernel
theorem dX0_hasOneOfEachTwo_22 : decode cX0_hasOneOfEachTwo 22 = .ok (.iconst (-1), 1) := by decide +kernel
theorem dX0_hasOneOfEachTwo_23 : decode cX0_hasOneOfEachTwo 23 = .ok (.ixor, 1) := by decide +kernel
theorem dX0_hasOneOfEachTwo_24 : decode cX0_hasOneOfEachTwo 24 = .ok (.iand, 1) := by decide +kernel
theorem dX0_hasOneOfEachTwo_25 : decode cX0_hasOneOfEachTwo 25 = .ok (.ifCond .eq 5, 3) := by decide +kernel
theorem dX0_hasOneOfEachTwo_28 : decode cX0_hasOneOfEachTwo 28 = .ok (.iconst 0, 1) := by decide +kernel
theorem dX0_hasOneOfEachTwo_29 : decode cX0_hasOneOfEachTwo 29 = .ok (.ireturn, 1) := by decide +kernel
theorem dX0_hasOneOfEachTwo_30 : decode cX0_hasOneOfEachTwo 30 = .ok (.iinc 3 1, 3) := by decide +kernel
theorem dX0_hasOneOfEachTwo_33 : decode cX0_hasOneOfEachTwo 33 = .ok (.goto (-31), 3) := by decide +kernel
theorem dX0_hasOneOfEachTwo_36 : decode cX0_hasOneOfEachTwo 36 = .ok (.iconst 1, 1) := by decide +kernel
theorem dX0_hasOneOfEachTwo_37 : decode cX0_hasOneOfEachTwo 37 = .ok (.ireturn, 1) := by decide +kernel
theorem dX0_mostMilk_0 : decode cX0_mostMilk 0 = .ok (.aload_n 0, 1) := by decide +kernel
theorem dX0_mostMilk_1 : decode cX0_mostMilk 1 = .ok (.invokevirtual 88, 3) := by decide +kernel
theorem dX0_mostMilk_4 : decode cX0_mostMilk 4 = .ok (.aload_n 0, 1) := by decide +kernel
theorem dX0_mostMilk_5 : decode cX0_mostMilk 5 = .ok (.getfield 24, 3) := by decide +kernel
theorem dX0_mostMilk_8 : decode cX0_mostMilk 8 = .ok (.iconst 0, 1) := by decide +kernel
theorem dX0_mostMilk_9 : decode cX0_mostMilk 9 = .ok (.iaload, 1) := by decide +kernel
theorem dX0_mostMilk_10 : decode cX0_mostMilk 10 = .ok (.ireturn, 1) := by decide +kernel
theorem dX0_fieldInHerd_0 : decode cX0_fieldInHerd 0 = .ok (.aload_n 0, 1) := by decide +kernel
theorem dX0_fieldInHerd_1 : decode cX0_fieldInHerd 1 = .ok (.invokevirtual 88, 3) := by decide +kernel
theorem dX0_fieldInHerd_4 : decode cX0_fieldInHerd 4 = .ok (.iconst 0, 1) := by decide +kernel
theorem dX0_fieldInHerd_5 : decode cX0_fieldInHerd 5 = .ok (.istore_n 2, 1) := by decide +kernel
theorem dX0_fieldInHerd_6 : decode cX0_fieldInHerd 6 = .ok (.bipush (-9), 2) := by decide +kernel
theorem dX0_fieldInHerd_8 : decode cX0_fieldInHerd 8 = .ok (.istore_n 3, 1) := by decide +kernel
theorem dX0_fieldInHerd_9 : decode cX0_fieldInHerd 9 = .ok (.iconst 0, 1) := by decide +kernel
theorem dX0_fieldInHerd_10 : decode cX0_fieldInHerd 10 = .ok (.istore 4, 2) := by decide +kernel
theorem dX0_fieldInHerd_12 : decode cX0_fieldInHerd 12 = .ok (.iload 4, 2) := by decide +kernel
theorem dX0_fieldInHerd_14 : decode cX0_fieldInHerd 14 = .ok (.iload_n 1, 1) := by decide +kernel
theorem dX0_fieldInHerd_15 : decode cX0_fieldInHerd 15 = .ok (.if_icmp .gt 32, 3) := by decide +kernel
theorem dX0_fieldInHerd_18 : decode cX0_fieldInHerd 18 = .ok (.aload_n 0, 1) := by decide +kernel
theorem dX0_fieldInHerd_19 : decode cX0_fieldInHerd 19 = .ok (.iload 4, 2) := by decide +kernel
theorem dX0_fieldInHerd_21 : decode cX0_fieldInHerd 21 = .ok (.iload_n 2, 1) := by decide +kernel
theorem dX0_fieldInHerd_22 : decode cX0_fieldInHerd 22 = .ok (.invokevirtual 91, 3) := by decide +kernel
theorem dX0_fieldInHerd_25 : decode cX0_fieldInHerd 25 = .ok (.istore_n 3, 1) := by decide +kernel
theorem dX0_fieldInHerd_26 : decode cX0_fieldInHerd 26 = .ok (.iload_n 3, 1) := by decide +kernel
theorem dX0_fieldInHerd_27 : decode cX0_fieldInHerd 27 = .ok (.bipush (-9), 2) := by decide +kernel
theorem dX0_fieldInHerd_29 : decode cX0_fieldInHerd 29 = .ok (.if_icmp .ne 6, 3) := by decide +kernel
theorem dX0_fieldInHerd_32 : decode cX0_fieldInHerd 32 = .ok (.bipush (-9), 2) := by decide +kernel
theorem dX0_fieldInHerd_34 : decode cX0_fieldInHerd 34 = .ok (.ireturn, 1) := by decide +kernel
theorem dX0_fieldInHerd_35 : decode cX0_fieldInHerd 35 = .ok (.iload_n 2, 1) := by decide +kernel
theorem dX0_fieldInHerd_36 : decode cX0_fieldInHerd 36 = .ok (.iconst 1, 1) := by decide +kernel
theorem dX0_fieldInHerd_37 : decode cX0_fieldInHerd 37 = .ok (.iload_n 3, 1) := by decide +kernel
theorem dX0_fieldInHerd_38 : decode cX0_fieldInHerd 38 = .ok (.ishl, 1) := by decide +kernel
theorem dX0_fieldInHerd_39 : decode cX0_fieldInHerd 39 = .ok (.ior, 1) := by decide +kernel
theorem dX0_fieldInHerd_40 : decode cX0_fieldInHerd 40 = .ok (.istore_n 2, 1) := by decide +kernel
theorem dX0_fieldInHerd_41 : decode cX0_fieldInHerd 41 = .ok (.iinc 4 1, 3) := by decide +kernel
theorem dX0_fieldInHerd_44 : decode cX0_fieldInHerd 44 = .ok (.goto (-32), 3) := by decide +kernel
theorem dX0_fieldInHerd_47 : decode cX0_fieldInHerd 47 = .ok (.iload_n 3, 1) := by decide +kernel
theorem dX0_fieldInHerd_48 : decode cX0_fieldInHerd 48 = .ok (.ireturn, 1) := by decide +kernel
theorem dX0_bestField_0 : decode cX0_bestField 0 = .ok (.iconst 0, 1) := by decide +kernel
theorem dX0_bestField_1 : decode cX0_bestField 1 = .ok (.istore_n 3, 1) := by decide +kernel
theorem dX0_bestField_2 : decode cX0_bestField 2 = .ok (.iload_n 3, 1) := by decide +kernel
theorem dX0_bestField_3 : decode cX0_bestField 3 = .ok (.aload_n 0, 1) := by decide +kernel
theorem dX0_bestField_4 : decode cX0_bestField 4 = .ok (.getfield 37, 3) := by decide +kernel
theorem dX0_bestField_7 : decode cX0_bestField 7 = .ok (.getfield 56, 3) := by decide +kernel
theorem dX0_bestField_10 : decode cX0_bestField 10 = .ok (.if_icmp .ge 35, 3) := by decide +kernel
theorem dX0_bestField_13 : decode cX0_bestField 13 = .ok (.iload_n 2, 1) := by decide +kernel
theorem dX0_bestField_14 : decode cX0_bestField 14 = .ok (.iload_n 3, 1) := by decide +kernel
theorem dX0_bestField_15 : decode cX0_bestField 15 = .ok (.ishr, 1) := by decide +kernel
theorem dX0_bestField_16 : decode cX0_bestField 16 = .ok (.iconst 1, 1) := by decide +kernel
theorem dX0_bestField_17 : decode cX0_bestField 17 = .ok (.iand, 1) := by decide +kernel
theorem dX0_bestField_18 : decode cX0_bestField 18 = .ok (.ifCond .ne 21, 3) := by decide +kernel
theorem dX0_bestField_21 : decode cX0_bestField 21 = .ok (.aload_n 0, 1) := by decide +kernel
theorem dX0_bestField_22 : decode cX0_bestField 22 = .ok (.iload_n 1, 1) := by decide +kernel
theorem dX0_bestField_23 : decode cX0_bestField 23 = .ok (.iload_n 3, 1) := by decide +kernel
theorem dX0_bestField_24 : decode cX0_bestField 24 = .ok (.iload_n 2, 1) := by decide +kernel
theorem dX0_bestField_25 : decode cX0_bestField 25 = .ok (.invokevirtual 94, 3) := by decide +kernel
theorem dX0_bestField_28 : decode cX0_bestField 28 = .ok (.aload_n 0, 1) := by decide +kernel
theorem dX0_bestField_29 : decode cX0_bestField 29 = .ok (.getfield 24, 3) := by decide +kernel
theorem dX0_bestField_32 : decode cX0_bestField 32 = .ok (.iload_n 2, 1) := by decide +kernel
theorem dX0_bestField_33 : decode cX0_bestField 33 = .ok (.iaload, 1) := by decide +kernel
theorem dX0_bestField_34 : decode cX0_bestField 34 = .ok (.if_icmp .ne 5, 3) := by decide +kernel
theorem dX0_bestField_37 : decode cX0_bestField 37 = .ok (.iload_n 3, 1) := by decide +kernel
theorem dX0_bestField_38 : decode cX0_bestField 38 = .ok (.ireturn, 1) := by decide +kernel
theorem dX0_bestField_39 : decode cX0_bestField 39 = .ok (.iinc 3 1, 3) := by decide +kernel
theorem dX0_bestField_42 : decode cX0_bestField 42 = .ok (.goto (-40), 3) := by decide +kernel
theorem dX0_bestField_45 : decode cX0_bestField 45 = .ok (.bipush (-9), 2) := by decide +kernel
theorem dX0_bestField_47 : decode cX0_bestField 47 = .ok (.ireturn, 1) := by decide +kernel
theorem dX0_measureHerds_0 : decode cX0_measureHerds 0 = .ok (.iconst 0, 1) := by decide +kernel
theorem dX0_measureHerds_1 : decode cX0_measureHerds 1 = .ok (.istore_n 1, 1) := by decide +kernel
theorem dX0_measureHerds_2 : decode cX0_measureHerds 2 = .ok (.iload_n 1, 1) := by decide +kernel
theorem dX0_measureHerds_3 : decode cX0_measureHerds 3 = .ok (.aload_n 0, 1) := by decide +kernel
theorem dX0_measureHerds_4 : decode cX0_measureHerds 4 = .ok (.getfield 37, 3) := by decide +kernel
theorem dX0_measureHerds_7 : decode cX0_measureHerds 7 = .ok (.getfield 56, 3) := by decide +kernel
theorem dX0_measureHerds_10 : decode cX0_measureHerds 10 = .ok (.if_icmp .ge 23, 3) := by decide +kernel
theorem dX0_measureHerds_13 : decode cX0_measureHerds 13 = .ok (.aload_n 0, 1) := by decide +kernel
theorem dX0_measureHerds_14 : decode cX0_measureHerds 14 = .ok (.getfield 21, 3) := by decide +kernel
theorem dX0_measureHerds_17 : decode cX0_measureHerds 17 = .ok (.iload_n 1, 1) := by decide +kernel
theorem dX0_measureHerds_18 : decode cX0_measureHerds 18 = .ok (.aload_n 0, 1) := by decide +kernel
theorem dX0_measureHerds_19 : decode cX0_measureHerds 19 = .ok (.getfield 27, 3) := by decide +kernel
theorem dX0_measureHerds_22 : decode cX0_measureHerds 22 = .ok (.iload_n 1, 1) := by decide +kernel
theorem dX0_measureHerds_23 : decode cX0_measureHerds 23 = .ok (.invokevirtual 98, 3) := by decide +kernel
theorem dX0_measureHerds_26 : decode cX0_measureHerds 26 = .ok (.iastore, 1) := by decide +kernel
theorem dX0_measureHerds_27 : decode cX0_measureHerds 27 = .ok (.iinc 1 1, 3) := by decide +kernel
theorem dX0_measureHerds_30 : decode cX0_measureHerds 30 = .ok (.goto (-28), 3) := by decide +kernel
theorem dX0_measureHerds_33 : decode cX0_measureHerds 33 = .ok (.iconst 1, 1) := by decide +kernel
theorem dX0_measureHerds_34 : decode cX0_measureHerds 34 = .ok (.aload_n 0, 1) := by decide +kernel
theorem dX0_measureHerds_35 : decode cX0_measureHerds 35 = .ok (.getfield 37, 3) := by decide +kernel
theorem dX0_measureHerds_38 : decode cX0_measureHerds 38 = .ok (.getfield 56, 3) := by decide +kernel
theorem dX0_measureHerds_41 : decode cX0_measureHerds 41 = .ok (.ishl, 1) := by decide +kernel
theorem dX0_measureHerds_42 : decode cX0_measureHerds 42 = .ok (.iconst 1, 1) := by decide +kernel
theorem dX0_measureHerds_43 : decode cX0_measureHerds 43 = .ok (.isub, 1) := by decide +kernel
theorem dX0_measureHerds_44 : decode cX0_measureHerds 44 = .ok (.istore_n 1, 1) := by decide +kernel
theorem dX0_measureHerds_45 : decode cX0_measureHerds 45 = .ok (.iload_n 1, 1) := by decide +kernel
theorem dX0_measureHerds_46 : decode cX0_measureHerds 46 = .ok (.ifCond .lt 81, 3) := by decide +kernel
theorem dX0_measureHerds_49 : decode cX0_measureHerds 49 = .ok (.iload_n 1, 1) := by decide +kernel
theorem dX0_measureHerds_50 : decode cX0_measureHerds 50 = .ok (.invokestatic 47, 3) := by decide +kernel
theorem dX0_measureHerds_53 : decode cX0_measureHerds 53 = .ok (.istore_n 2, 1) := by decide +kernel
theorem dX0_measureHerds_54 : decode cX0_measureHerds 54 = .ok (.aload_n 0, 1) := by decide +kernel
theorem dX0_measureHerds_55 : decode cX0_measureHerds 55 = .ok (.getfield 24, 3) := by decide +kernel
theorem dX0_measureHerds_58 : decode cX0_measureHerds 58 = .ok (.iload_n 1, 1) := by decide +kernel
theorem dX0_measureHerds_59 : decode cX0_measureHerds 59 = .ok (.iconst 0, 1) := by decide +kernel
theorem dX0_measureHerds_60 : decode cX0_measureHerds 60 = .ok (.iastore, 1) := by decide +kernel
theorem dX0_measureHerds_61 : decode cX0_measureHerds 61 = .ok (.iconst 0, 1) := by decide +kernel
theorem dX0_measureHerds_62 : decode cX0_measureHerds 62 = .ok (.istore_n 3, 1) := by decide +kernel
theorem dX0_measureHerds_63 : decode cX0_measureHerds 63 = .ok (.iload_n 3, 1) := by decide +kernel
theorem dX0_measureHerds_64 : decode cX0_measureHerds 64 = .ok (.aload_n 0, 1) := by decide +kernel
theorem dX0_measureHerds_65 : decode cX0_measureHerds 65 = .ok (.getfield 37, 3) := by decide +kernel
theorem dX0_measureHerds_68 : decode cX0_measureHerds 68 = .ok (.getfield 56, 3) := by decide +kernel
theorem dX0_measureHerds_71 : decode cX0_measureHerds 71 = .ok (.if_icmp .ge 50, 3) := by decide +kernel
theorem dX0_measureHerds_74 : decode cX0_measureHerds 74 = .ok (.iload_n 2, 1) := by decide +kernel
theorem dX0_measureHerds_75 : decode cX0_measureHerds 75 = .ok (.aload_n 0, 1) := by decide +kernel
theorem dX0_measureHerds_76 : decode cX0_measureHerds 76 = .ok (.getfield 37, 3) := by decide +kernel
theorem dX0_measureHerds_79 : decode cX0_measureHerds 79 = .ok (.getfield 101, 3) := by decide +kernel
theorem dX0_measureHerds_82 : decode cX0_measureHerds 82 = .ok (.if_icmp .ge 39, 3) := by decide +kernel
theorem dX0_measureHerds_85 : decode cX0_measureHerds 85 = .ok (.iload_n 1, 1) := by decide +kernel
theorem dX0_measureHerds_86 : decode cX0_measureHerds 86 = .ok (.iload_n 3, 1) := by decide +kernel
theorem dX0_measureHerds_87 : decode cX0_measureHerds 87 = .ok (.ishr, 1) := by decide +kernel
theorem dX0_measureHerds_88 : decode cX0_measureHerds 88 = .ok (.iconst 1, 1) := by decide +kernel
theorem dX0_measureHerds_89 : decode cX0_measureHerds 89 = .ok (.iand, 1) := by decide +kernel
theorem dX0_measureHerds_90 : decode cX0_measureHerds 90 = .ok (.ifCond .ne 25, 3) := by decide +kernel
theorem dX0_measureHerds_93 : decode cX0_measureHerds 93 = .ok (.aload_n 0, 1) := by decide +kernel
theorem dX0_measureHerds_94 : decode cX0_measureHerds 94 = .ok (.getfield 24, 3) := by decide +kernel
theorem dX0_measureHerds_97 : decode cX0_measureHerds 97 = .ok (.iload_n 1, 1) := by decide +kernel
theorem dX0_measureHerds_98 : decode cX0_measureHerds 98 = .ok (.aload_n 0, 1) := by decide +kernel
theorem dX0_measureHerds_99 : decode cX0_measureHerds 99 = .ok (.getfield 24, 3) := by decide +kernel
theorem dX0_measureHerds_102 : decode cX0_measureHerds 102 = .ok (.iload_n 1, 1) := by decide +kernel
theorem dX0_measureHerds_103 : decode cX0_measureHerds 103 = .ok (.iaload, 1) := by decide +kernel
theorem dX0_measureHerds_104 : decode cX0_measureHerds 104 = .ok (.aload_n 0, 1) := by decide +kernel
theorem dX0_measureHerds_105 : decode cX0_measureHerds 105 = .ok (.iload_n 2, 1) := by decide +kernel
theorem dX0_measureHerds_106 : decode cX0_measureHerds 106 = .ok (.iload_n 3, 1) := by decide +kernel
theorem dX0_measureHerds_107 : decode cX0_measureHerds 107 = .ok (.iload_n 1, 1) := by decide +kernel
theorem dX0_measureHerds_108 : decode cX0_measureHerds 108 = .ok (.invokevirtual 94, 3) := by decide +kernel
theorem dX0_measureHerds_111 : decode cX0_measureHerds 111 = .ok (.invokestatic 9, 3) := by decide +kernel
theorem dX0_measureHerds_114 : decode cX0_measureHerds 114 = .ok (.iastore, 1) := by decide +kernel
theorem dX0_measureHerds_115 : decode cX0_measureHerds 115 = .ok (.iinc 3 1, 3) := by decide +kernel
theorem dX0_measureHerds_118 : decode cX0_measureHerds 118 = .ok (.goto (-55), 3) := by decide +kernel
theorem dX0_measureHerds_121 : decode cX0_measureHerds 121 = .ok (.iinc 1 (-1), 3) := by decide +kernel
theorem dX0_measureHerds_124 : decode cX0_measureHerds 124 = .ok (.goto (-79), 3) := by decide +kernel
theorem dX0_measureHerds_127 : decode cX0_measureHerds 127 = .ok (.return_, 1) := by decide +kernel
theorem dX0_milkWith_0 : decode cX0_milkWith 0 = .ok (.aload_n 0, 1) := by decide +kernel
theorem dX0_milkWith_1 : decode cX0_milkWith 1 = .ok (.getfield 37, 3) := by decide +kernel
theorem dX0_milkWith_4 : decode cX0_milkWith 4 = .ok (.getfield 104, 3) := by decide +kernel
theorem dX0_milkWith_7 : decode cX0_milkWith 7 = .ok (.aload_n 0, 1) := by decide +kernel
theorem dX0_milkWith_8 : decode cX0_milkWith 8 = .ok (.getfield 37, 3) := by decide +kernel
theorem dX0_milkWith_11 : decode cX0_milkWith 11 = .ok (.getfield 107, 3) := by decide +kernel
theorem dX0_milkWith_14 : decode cX0_milkWith 14 = .ok (.iload_n 1, 1) := by decide +kernel
theorem dX0_milkWith_15 : decode cX0_milkWith 15 = .ok (.iaload, 1) := by decide +kernel
theorem dX0_milkWith_16 : decode cX0_milkWith 16 = .ok (.iaload, 1) := by decide +kernel
theorem dX0_milkWith_17 : decode cX0_milkWith 17 = .ok (.aload_n 0, 1) := by decide +kernel
theorem dX0_milkWith_18 : decode cX0_milkWith 18 = .ok (.getfield 21, 3) := by decide +kernel
theorem dX0_milkWith_21 : decode cX0_milkWith 21 = .ok (.iload_n 2, 1) := by decide +kernel
theorem dX0_milkWith_22 : decode cX0_milkWith 22 = .ok (.iaload, 1) := by decide +kernel
theorem dX0_milkWith_23 : decode cX0_milkWith 23 = .ok (.imul, 1) := by decide +kernel
theorem dX0_milkWith_24 : decode cX0_milkWith 24 = .ok (.aload_n 0, 1) := by decide +kernel
theorem dX0_milkWith_25 : decode cX0_milkWith 25 = .ok (.getfield 24, 3) := by decide +kernel
theorem dX0_milkWith_28 : decode cX0_milkWith 28 = .ok (.iload_n 3, 1) := by decide +kernel
theorem dX0_milkWith_29 : decode cX0_milkWith 29 = .ok (.iconst 1, 1) := by decide +kernel
theorem dX0_milkWith_30 : decode cX0_milkWith 30 = .ok (.iload_n 2, 1) := by decide +kernel
theorem dX0_milkWith_31 : decode cX0_milkWith 31 = .ok (.ishl, 1) := by decide +kernel
theorem dX0_milkWith_32 : decode cX0_milkWith 32 = .ok (.ior, 1) := by decide +kernel
theorem dX0_milkWith_33 : decode cX0_milkWith 33 = .ok (.iaload, 1) := by decide +kernel
theorem dX0_milkWith_34 : decode cX0_milkWith 34 = .ok (.iadd, 1) := by decide +kernel
theorem dX0_milkWith_35 : decode cX0_milkWith 35 = .ok (.ireturn, 1) := by decide +kernel
theorem dX1_init_0 : decode cX1_init 0 = .ok (.aload_n 0, 1) := by decide +kernel
theorem dX1_init_1 : decode cX1_init 1 = .ok (.invokespecial 3, 3) := by decide +kernel
theorem dX1_init_4 : decode cX1_init 4 = .ok (.aload_n 0, 1) := by decide +kernel
theorem dX1_init_5 : decode cX1_init 5 = .ok (.aload_n 1, 1) := by decide +kernel
theorem dX1_init_6 : decode cX1_init 6 = .ok (.putfield 9, 3) := by decide +kernel
theorem dX1_init_9 : decode cX1_init 9 = .ok (.aload_n 0, 1) := by decide +kernel
theorem dX1_init_10 : decode cX1_init 10 = .ok (.aload_n 2, 1) := by decide +kernel
theorem dX1_init_11 : decode cX1_init 11 = .ok (.putfield 15, 3) := by decide +kernel
theorem dX1_init_14 : decode cX1_init 14 = .ok (.return_, 1) := by decide +kernel
theorem dX1_isString_0 : decode cX1_isString 0 = .ok (.aload_n 0, 1) := by decide +kernel
theorem dX1_isString_1 : decode cX1_isString 1 = .ok (.getfield 15, 3) := by decide +kernel
theorem dX1_isString_4 : decode cX1_isString 4 = .ok (.getfield 19, 3) := by decide +kernel
theorem dX1_isString_7 : decode cX1_isString 7 = .ok (.iload_n 1, 1) := by decide +kernel
theorem dX1_isString_8 : decode cX1_isString 8 = .ok (.iaload, 1) := by decide +kernel
theorem dX1_isString_9 : decode cX1_isString 9 = .ok (.ifCond .le 21, 3) := by decide +kernel
theorem dX1_isString_12 : decode cX1_isString 12 = .ok (.aload_n 0, 1) := by decide +kernel
theorem dX1_isString_13 : decode cX1_isString 13 = .ok (.getfield 15, 3) := by decide +kernel
theorem dX1_isString_16 : decode cX1_isString 16 = .ok (.getfield 25, 3) := by decide +kernel
theorem dX1_isString_19 : decode cX1_isString 19 = .ok (.iload_n 1, 1) := by decide +kernel
theorem dX1_isString_20 : decode cX1_isString 20 = .ok (.ishr, 1) := by decide +kernel
theorem dX1_isString_21 : decode cX1_isString 21 = .ok (.iconst 1, 1) := by decide +kernel
theorem dX1_isString_22 : decode cX1_isString 22 = .ok (.iand, 1) := by decide +kernel
theorem dX1_isString_23 : decode cX1_isString 23 = .ok (.ifCond .ne 7, 3) := by decide +kernel
theorem dX1_isString_26 : decode cX1_isString 26 = .ok (.iconst 1, 1) := by decide +kernel
theorem dX1_isString_27 : decode cX1_isString 27 = .ok (.goto 4, 3) := by decide +kernel
theorem dX1_isString_30 : decode cX1_isString 30 = .ok (.iconst 0, 1) := by decide +kernel
theorem dX1_isString_31 : decode cX1_isString 31 = .ok (.ireturn, 1) := by decide +kernel
theorem dX1_soundTo_0 : decode cX1_soundTo 0 = .ok (.aload_n 0, 1) := by decide +kernel
theorem dX1_soundTo_1 : decode cX1_soundTo 1 = .ok (.iload_n 2, 1) := by decide +kernel
theorem dX1_soundTo_2 : decode cX1_soundTo 2 = .ok (.invokevirtual 29, 3) := by decide +kernel
theorem dX1_soundTo_5 : decode cX1_soundTo 5 = .ok (.ifCond .eq 18, 3) := by decide +kernel
theorem dX1_soundTo_8 : decode cX1_soundTo 8 = .ok (.aload_n 0, 1) := by decide +kernel
theorem dX1_soundTo_9 : decode cX1_soundTo 9 = .ok (.getfield 15, 3) := by decide +kernel
theorem dX1_soundTo_12 : decode cX1_soundTo 12 = .ok (.getfield 33, 3) := by decide +kernel
theorem dX1_soundTo_15 : decode cX1_soundTo 15 = .ok (.iload_n 2, 1) := by decide +kernel
theorem dX1_soundTo_16 : decode cX1_soundTo 16 = .ok (.ishr, 1) := by decide +kernel
theorem dX1_soundTo_17 : decode cX1_soundTo 17 = .ok (.iconst 1, 1) := by decide +kernel
theorem dX1_soundTo_18 : decode cX1_soundTo 18 = .ok (.iand, 1) := by decide +kernel
theorem dX1_soundTo_19 : decode cX1_soundTo 19 = .ok (.iconst 1, 1) := by decide +kernel
theorem dX1_soundTo_20 : decode cX1_soundTo 20 = .ok (.if_icmp .ne 5, 3) := by decide +kernel
theorem dX1_soundTo_23 : decode cX1_soundTo 23 = .ok (.iconst 0, 1) := by decide +kernel
theorem dX1_soundTo_24 : decode cX1_soundTo 24 = .ok (.ireturn, 1) := by decide +kernel
theorem dX1_soundTo_25 : decode cX1_soundTo 25 = .ok (.iconst 0, 1) := by decide +kernel
theorem dX1_soundTo_26 : decode cX1_soundTo 26 = .ok (.aload_n 0, 1) := by decide +kernel
theorem dX1_soundTo_27 : decode cX1_soundTo 27 = .ok (.getfield 15, 3) := by decide +kernel
theorem dX1_soundTo_30 : decode cX1_soundTo 30 = .ok (.getfield 19, 3) := by decide +kernel
theorem dX1_soundTo_33 : decode cX1_soundTo 33 = .ok (.iload_n 2, 1) := by decide +kernel
theorem dX1_soundTo_34 : decode cX1_soundTo 34 = .ok (.iaload, 1) := by decide +kernel
theorem dX1_soundTo_35 : decode cX1_soundTo 35 = .ok (.aload_n 0, 1) := by decide +kernel
theorem dX1_soundTo_36 : decode cX1_soundTo 36 = .ok (.getfield 9, 3) := by decide +kernel
theorem dX1_soundTo_39 : decode cX1_soundTo 39 = .ok (.getfield 36, 3) := by decide +kernel
theorem dX1_soundTo_42 : decode cX1_soundTo 42 = .ok (.iload_n 1, 1) := by decide +kernel
theorem dX1_soundTo_43 : decode cX1_soundTo 43 = .ok (.iaload, 1) := by decide +kernel
theorem dX1_soundTo_44 : decode cX1_soundTo 44 = .ok (.iadd, 1) := by decide +kernel
theorem dX1_soundTo_45 : decode cX1_soundTo 45 = .ok (.aload_n 0, 1) := by decide +kernel
theorem dX1_soundTo_46 : decode cX1_soundTo 46 = .ok (.getfield 15, 3) := by decide +kernel
theorem dX1_soundTo_49 : decode cX1_soundTo 49 = .ok (.getfield 41, 3) := by decide +kernel
theorem dX1_soundTo_52 : decode cX1_soundTo 52 = .ok (.isub, 1) := by decide +kernel
theorem dX1_soundTo_53 : decode cX1_soundTo 53 = .ok (.invokestatic 44, 3) := by decide +kernel
theorem dX1_soundTo_56 : decode cX1_soundTo 56 = .ok (.ireturn, 1) := by decide +kernel
theorem dX1_fifthsAt_0 : decode cX1_fifthsAt 0 = .ok (.iconst 0, 1) := by decide +kernel
theorem dX1_fifthsAt_1 : decode cX1_fifthsAt 1 = .ok (.istore_n 2, 1) := by decide +kernel
theorem dX1_fifthsAt_2 : decode cX1_fifthsAt 2 = .ok (.iconst 1, 1) := by decide +kernel
theorem dX1_fifthsAt_3 : decode cX1_fifthsAt 3 = .ok (.istore_n 3, 1) := by decide +kernel
theorem dX1_fifthsAt_4 : decode cX1_fifthsAt 4 = .ok (.iload_n 3, 1) := by decide +kernel
theorem dX1_fifthsAt_5 : decode cX1_fifthsAt 5 = .ok (.aload_n 0, 1) := by decide +kernel
theorem dX1_fifthsAt_6 : decode cX1_fifthsAt 6 = .ok (.getfield 9, 3) := by decide +kernel
theorem dX1_fifthsAt_9 : decode cX1_fifthsAt 9 = .ok (.getfield 50, 3) := by decide +kernel
theorem dX1_fifthsAt_12 : decode cX1_fifthsAt 12 = .ok (.if_icmp .ge 74, 3) := by decide +kernel
theorem dX1_fifthsAt_15 : decode cX1_fifthsAt 15 = .ok (.iconst 0, 1) := by decide +kernel
theorem dX1_fifthsAt_16 : decode cX1_fifthsAt 16 = .ok (.istore 4, 2) := by decide +kernel
theorem dX1_fifthsAt_18 : decode cX1_fifthsAt 18 = .ok (.iload 4, 2) := by decide +kernel
theorem dX1_fifthsAt_20 : decode cX1_fifthsAt 20 = .ok (.iload_n 3, 1) := by decide +kernel
theorem dX1_fifthsAt_21 : decode cX1_fifthsAt 21 = .ok (.if_icmp .ge 59, 3) := by decide +kernel
theorem dX1_fifthsAt_24 : decode cX1_fifthsAt 24 = .ok (.aload_n 0, 1) := by decide +kernel
theorem dX1_fifthsAt_25 : decode cX1_fifthsAt 25 = .ok (.iload_n 3, 1) := by decide +kernel
theorem dX1_fifthsAt_26 : decode cX1_fifthsAt 26 = .ok (.iload_n 1, 1) := by decide +kernel
theorem dX1_fifthsAt_27 : decode cX1_fifthsAt 27 = .ok (.invokevirtual 53, 3) := by decide +kernel
theorem dX1_fifthsAt_30 : decode cX1_fifthsAt 30 = .ok (.ifCond .eq 44, 3) := by decide +kernel
theorem dX1_fifthsAt_33 : decode cX1_fifthsAt 33 = .ok (.aload_n 0, 1) := by decide +kernel
theorem dX1_fifthsAt_34 : decode cX1_fifthsAt 34 = .ok (.iload 4, 2) := by decide +kernel
theorem dX1_fifthsAt_36 : decode cX1_fifthsAt 36 = .ok (.iload_n 1, 1) := by decide +kernel
theorem dX1_fifthsAt_37 : decode cX1_fifthsAt 37 = .ok (.invokevirtual 53, 3) := by decide +kernel
theorem dX1_fifthsAt_40 : decode cX1_fifthsAt 40 = .ok (.ifCond .eq 34, 3) := by decide +kernel
theorem dX1_fifthsAt_43 : decode cX1_fifthsAt 43 = .ok (.aload_n 0, 1) := by decide +kernel
theorem dX1_fifthsAt_44 : decode cX1_fifthsAt 44 = .ok (.getfield 15, 3) := by decide +kernel
theorem dX1_fifthsAt_47 : decode cX1_fifthsAt 47 = .ok (.getfield 19, 3) := by decide +kernel
theorem dX1_fifthsAt_50 : decode cX1_fifthsAt 50 = .ok (.iload_n 3, 1) := by decide +kernel
theorem dX1_fifthsAt_51 : decode cX1_fifthsAt 51 = .ok (.iaload, 1) := by decide +kernel
theorem dX1_fifthsAt_52 : decode cX1_fifthsAt 52 = .ok (.aload_n 0, 1) := by decide +kernel
theorem dX1_fifthsAt_53 : decode cX1_fifthsAt 53 = .ok (.getfield 15, 3) := by decide +kernel
theorem dX1_fifthsAt_56 : decode cX1_fifthsAt 56 = .ok (.getfield 19, 3) := by decide +kernel
theorem dX1_fifthsAt_59 : decode cX1_fifthsAt 59 = .ok (.iload 4, 2) := by decide +kernel
theorem dX1_fifthsAt_61 : decode cX1_fifthsAt 61 = .ok (.iaload, 1) := by decide +kernel
theorem dX1_fifthsAt_62 : decode cX1_fifthsAt 62 = .ok (.isub, 1) := by decide +kernel
theorem dX1_fifthsAt_63 : decode cX1_fifthsAt 63 = .ok (.invokestatic 57, 3) := by decide +kernel
theorem dX1_fifthsAt_66 : decode cX1_fifthsAt 66 = .ok (.bipush 7, 2) := by decide +kernel
theorem dX1_fifthsAt_68 : decode cX1_fifthsAt 68 = .ok (.if_icmp .ne 6, 3) := by decide +kernel
theorem dX1_fifthsAt_71 : decode cX1_fifthsAt 71 = .ok (.iinc 2 1, 3) := by decide +kernel
theorem dX1_fifthsAt_74 : decode cX1_fifthsAt 74 = .ok (.iinc 4 1, 3) := by decide +kernel
theorem dX1_fifthsAt_77 : decode cX1_fifthsAt 77 = .ok (.goto (-59), 3) := by decide +kernel
theorem dX1_fifthsAt_80 : decode cX1_fifthsAt 80 = .ok (.iinc 3 1, 3) := by decide +kernel
theorem dX1_fifthsAt_83 : decode cX1_fifthsAt 83 = .ok (.goto (-79), 3) := by decide +kernel
theorem dX1_fifthsAt_86 : decode cX1_fifthsAt 86 = .ok (.iload_n 2, 1) := by decide +kernel
theorem dX1_fifthsAt_87 : decode cX1_fifthsAt 87 = .ok (.ireturn, 1) := by decide +kernel
theorem dX1_isStringAt_0 : decode cX1_isStringAt 0 = .ok (.aload_n 0, 1) := by decide +kernel
theorem dX1_isStringAt_1 : decode cX1_isStringAt 1 = .ok (.iload_n 1, 1) := by decide +kernel
theorem dX1_isStringAt_2 : decode cX1_isStringAt 2 = .ok (.invokevirtual 29, 3) := by decide +kernel
theorem dX1_isStringAt_5 : decode cX1_isStringAt 5 = .ok (.ifCond .eq 19, 3) := by decide +kernel
theorem dX1_isStringAt_8 : decode cX1_isStringAt 8 = .ok (.aload_n 0, 1) := by decide +kernel
theorem dX1_isStringAt_9 : decode cX1_isStringAt 9 = .ok (.getfield 9, 3) := by decide +kernel
theorem dX1_isStringAt_12 : decode cX1_isStringAt 12 = .ok (.iload_n 1, 1) := by decide +kernel
theorem dX1_isStringAt_13 : decode cX1_isStringAt 13 = .ok (.iload_n 2, 1) := by decide +kernel
theorem dX1_isStringAt_14 : decode cX1_isStringAt 14 = .ok (.invokevirtual 61, 3) := by decide +kernel
theorem dX1_isStringAt_17 : decode cX1_isStringAt 17 = .ok (.ifCond .eq 7, 3) := by decide +kernel
theorem dX1_isStringAt_20 : decode cX1_isStringAt 20 = .ok (.iconst 1, 1) := by decide +kernel
theorem dX1_isStringAt_21 : decode cX1_isStringAt 21 = .ok (.goto 4, 3) := by decide +kernel
theorem dX1_isStringAt_24 : decode cX1_isStringAt 24 = .ok (.iconst 0, 1) := by decide +kernel
theorem dX1_isStringAt_25 : decode cX1_isStringAt 25 = .ok (.ireturn, 1) := by decide +kernel
theorem dX1_beastsThatSound_0 : decode cX1_beastsThatSound 0 = .ok (.iconst 0, 1) := by decide +kernel
theorem dX1_beastsThatSound_1 : decode cX1_beastsThatSound 1 = .ok (.istore_n 2, 1) := by decide +kernel
theorem dX1_beastsThatSound_2 : decode cX1_beastsThatSound 2 = .ok (.iconst 0, 1) := by decide +kernel
theorem dX1_beastsThatSound_3 : decode cX1_beastsThatSound 3 = .ok (.istore_n 3, 1) := by decide +kernel
theorem dX1_beastsThatSound_4 : decode cX1_beastsThatSound 4 = .ok (.iload_n 3, 1) := by decide +kernel
theorem dX1_beastsThatSound_5 : decode cX1_beastsThatSound 5 = .ok (.aload_n 0, 1) := by decide +kernel
theorem dX1_beastsThatSound_6 : decode cX1_beastsThatSound 6 = .ok (.getfield 9, 3) := by decide +kernel
theorem dX1_beastsThatSound_9 : decode cX1_beastsThatSound 9 = .ok (.getfield 64, 3) := by decide +kernel
theorem dX1_beastsThatSound_12 : decode cX1_beastsThatSound 12 = .ok (.if_icmp .ge 76, 3) := by decide +kernel
theorem dX1_beastsThatSound_15 : decode cX1_beastsThatSound 15 = .ok (.iconst 0, 1) := by decide +kernel
theorem dX1_beastsThatSound_16 : decode cX1_beastsThatSound 16 = .ok (.istore 4, 2) := by decide +kernel
theorem dX1_beastsThatSound_18 : decode cX1_beastsThatSound 18 = .ok (.iload 4, 2) := by decide +kernel
theorem dX1_beastsThatSound_20 : decode cX1_beastsThatSound 20 = .ok (.aload_n 0, 1) := by decide +kernel
theorem dX1_beastsThatSound_21 : decode cX1_beastsThatSound 21 = .ok (.getfield 9, 3) := by decide +kernel
theorem dX1_beastsThatSound_24 : decode cX1_beastsThatSound 24 = .ok (.getfield 50, 3) := by decide +kernel
theorem dX1_beastsThatSound_27 : decode cX1_beastsThatSound 27 = .ok (.if_icmp .ge 55, 3) := by decide +kernel
theorem dX1_beastsThatSound_30 : decode cX1_beastsThatSound 30 = .ok (.aload_n 0, 1) := by decide +kernel
theorem dX1_beastsThatSound_31 : decode cX1_beastsThatSound 31 = .ok (.getfield 9, 3) := by decide +kernel
theorem dX1_beastsThatSound_34 : decode cX1_beastsThatSound 34 = .ok (.iload 4, 2) := by decide +kernel
theorem dX1_beastsThatSound_36 : decode cX1_beastsThatSound 36 = .ok (.aload_n 0, 1) := by decide +kernel
theorem dX1_beastsThatSound_37 : decode cX1_beastsThatSound 37 = .ok (.getfield 15, 3) := by decide +kernel
theorem dX1_beastsThatSound_40 : decode cX1_beastsThatSound 40 = .ok (.getfield 67, 3) := by decide +kernel
theorem dX1_beastsThatSound_43 : decode cX1_beastsThatSound 43 = .ok (.iload_n 3, 1) := by decide +kernel
theorem dX1_beastsThatSound_44 : decode cX1_beastsThatSound 44 = .ok (.iaload, 1) := by decide +kernel
theorem dX1_beastsThatSound_45 : decode cX1_beastsThatSound 45 = .ok (.invokevirtual 61, 3) := by decide +kernel
theorem dX1_beastsThatSound_48 : decode cX1_beastsThatSound 48 = .ok (.ifCond .eq 28, 3) := by decide +kernel
theorem dX1_beastsThatSound_51 : decode cX1_beastsThatSound 51 = .ok (.aload_n 0, 1) := by decide +kernel
theorem dX1_beastsThatSound_52 : decode cX1_beastsThatSound 52 = .ok (.aload_n 0, 1) := by decide +kernel
theorem dX1_beastsThatSound_53 : decode cX1_beastsThatSound 53 = .ok (.getfield 9, 3) := by decide +kernel
theorem dX1_beastsThatSound_56 : decode cX1_beastsThatSound 56 = .ok (.getfield 70, 3) := by decide +kernel
theorem dX1_beastsThatSound_59 : decode cX1_beastsThatSound 59 = .ok (.iload_n 3, 1) := by decide +kernel
theorem dX1_beastsThatSound_60 : decode cX1_beastsThatSound 60 = .ok (.iaload, 1) := by decide +kernel
theorem dX1_beastsThatSound_61 : decode cX1_beastsThatSound 61 = .ok (.iload 4, 2) := by decide +kernel
theorem dX1_beastsThatSound_63 : decode cX1_beastsThatSound 63 = .ok (.invokevirtual 73, 3) := by decide +kernel
theorem dX1_beastsThatSound_66 : decode cX1_beastsThatSound 66 = .ok (.iload_n 1, 1) := by decide +kernel
theorem dX1_beastsThatSound_67 : decode cX1_beastsThatSound 67 = .ok (.if_icmp .ne 9, 3) := by decide +kernel
theorem dX1_beastsThatSound_70 : decode cX1_beastsThatSound 70 = .ok (.iload_n 2, 1) := by decide +kernel
theorem dX1_beastsThatSound_71 : decode cX1_beastsThatSound 71 = .ok (.iconst 1, 1) := by decide +kernel
theorem dX1_beastsThatSound_72 : decode cX1_beastsThatSound 72 = .ok (.iload_n 3, 1) := by decide +kernel
theorem dX1_beastsThatSound_73 : decode cX1_beastsThatSound 73 = .ok (.ishl, 1) := by decide +kernel
theorem dX1_beastsThatSound_74 : decode cX1_beastsThatSound 74 = .ok (.ior, 1) := by decide +kernel
theorem dX1_beastsThatSound_75 : decode cX1_beastsThatSound 75 = .ok (.istore_n 2, 1) := by decide +kernel
theorem dX1_beastsThatSound_76 : decode cX1_beastsThatSound 76 = .ok (.iinc 4 1, 3) := by decide +kernel
theorem dX1_beastsThatSound_79 : decode cX1_beastsThatSound 79 = .ok (.goto (-61), 3) := by decide +kernel
theorem dX1_beastsThatSound_82 : decode cX1_beastsThatSound 82 = .ok (.iinc 3 1, 3) := by decide +kernel
theorem dX1_beastsThatSound_85 : decode cX1_beastsThatSound 85 = .ok (.goto (-81), 3) := by decide +kernel
theorem dX1_beastsThatSound_88 : decode cX1_beastsThatSound 88 = .ok (.iload_n 2, 1) := by decide +kernel
theorem dX1_beastsThatSound_89 : decode cX1_beastsThatSound 89 = .ok (.ireturn, 1) := by decide +kernel
theorem dX2_init_0 : decode cX2_init 0 = .ok (.aload_n 0, 1) := by decide +kernel
theorem dX2_init_1 : decode cX2_init 1 = .ok (.invokespecial 3, 3) := by decide +kernel
theorem dX2_init_4 : decode cX2_init 4 = .ok (.aload_n 0, 1) := by decide +kernel
theorem dX2_init_5 : decode cX2_init 5 = .ok (.bipush 6, 2) := by decide +kernel
theorem dX2_init_7 : decode cX2_init 7 = .ok (.newarray .int, 2) := by decide +kernel
theorem dX2_init_9 : decode cX2_init 9 = .ok (.putfield 9, 3) := by decide +kernel
theorem dX2_init_12 : decode cX2_init 12 = .ok (.aload_n 0, 1) := by decide +kernel
theorem dX2_init_13 : decode cX2_init 13 = .ok (.iconst 4, 1) := by decide +kernel
theorem dX2_init_14 : decode cX2_init 14 = .ok (.newarray .int, 2) := by decide +kernel
theorem dX2_init_16 : decode cX2_init 16 = .ok (.putfield 15, 3) := by decide +kernel
theorem dX2_init_19 : decode cX2_init 19 = .ok (.aload_n 0, 1) := by decide +kernel
theorem dX2_init_20 : decode cX2_init 20 = .ok (.bipush 8, 2) := by decide +kernel
theorem dX2_init_22 : decode cX2_init 22 = .ok (.newarray .int, 2) := by decide +kernel
theorem dX2_init_24 : decode cX2_init 24 = .ok (.putfield 18, 3) := by decide +kernel
theorem dX2_init_27 : decode cX2_init 27 = .ok (.aload_n 0, 1) := by decide +kernel
theorem dX2_init_28 : decode cX2_init 28 = .ok (.bipush 8, 2) := by decide +kernel
theorem dX2_init_30 : decode cX2_init 30 = .ok (.newarray .int, 2) := by decide +kernel
theorem dX2_init_32 : decode cX2_init 32 = .ok (.putfield 21, 3) := by decide +kernel
theorem dX2_init_35 : decode cX2_init 35 = .ok (.aload_n 0, 1) := by decide +kernel
theorem dX2_init_36 : decode cX2_init 36 = .ok (.aload_n 1, 1) := by decide +kernel
theorem dX2_init_37 : decode cX2_init 37 = .ok (.putfield 24, 3) := by decide +kernel
theorem dX2_init_40 : decode cX2_init 40 = .ok (.aload_n 0, 1) := by decide +kernel
theorem dX2_init_41 : decode cX2_init 41 = .ok (.aload_n 1, 1) := by decide +kernel
theorem dX2_init_42 : decode cX2_init 42 = .ok (.getfield 28, 3) := by decide +kernel
theorem dX2_init_45 : decode cX2_init 45 = .ok (.putfield 34, 3) := by decide +kernel
theorem dX2_init_48 : decode cX2_init 48 = .ok (.return_, 1) := by decide +kernel
theorem dX2_takes_0 : decode cX2_takes 0 = .ok (.aload_n 0, 1) := by decide +kernel
theorem dX2_takes_1 : decode cX2_takes 1 = .ok (.getfield 35, 3) := by decide +kernel
theorem dX2_takes_4 : decode cX2_takes 4 = .ok (.bipush 6, 2) := by decide +kernel
theorem dX2_takes_6 : decode cX2_takes 6 = .ok (.if_icmp .lt 5, 3) := by decide +kernel
theorem dX2_takes_9 : decode cX2_takes 9 = .ok (.iconst 0, 1) := by decide +kernel
theorem dX2_takes_10 : decode cX2_takes 10 = .ok (.ireturn, 1) := by decide +kernel
theorem dX2_takes_11 : decode cX2_takes 11 = .ok (.aload_n 0, 1) := by decide +kernel
theorem dX2_takes_12 : decode cX2_takes 12 = .ok (.getfield 9, 3) := by decide +kernel
theorem dX2_takes_15 : decode cX2_takes 15 = .ok (.aload_n 0, 1) := by decide +kernel
theorem dX2_takes_16 : decode cX2_takes 16 = .ok (.getfield 35, 3) := by decide +kernel
theorem dX2_takes_19 : decode cX2_takes 19 = .ok (.iload_n 1, 1) := by decide +kernel
theorem dX2_takes_20 : decode cX2_takes 20 = .ok (.iastore, 1) := by decide +kernel
theorem dX2_takes_21 : decode cX2_takes 21 = .ok (.aload_n 0, 1) := by decide +kernel
theorem dX2_takes_22 : decode cX2_takes 22 = .ok (.dup, 1) := by decide +kernel
theorem dX2_takes_23 : decode cX2_takes 23 = .ok (.getfield 35, 3) := by decide +kernel
theorem dX2_takes_26 : decode cX2_takes 26 = .ok (.iconst 1, 1) := by decide +kernel
theorem dX2_takes_27 : decode cX2_takes 27 = .ok (.iadd, 1) := by decide +kernel
theorem dX2_takes_28 : decode cX2_takes 28 = .ok (.putfield 35, 3) := by decide +kernel
theorem dX2_takes_31 : decode cX2_takes 31 = .ok (.iconst 1, 1) := by decide +kernel
theorem dX2_takes_32 : decode cX2_takes 32 = .ok (.ireturn, 1) := by decide +kernel
theorem dX2_rowsFrom_0 : decode cX2_rowsFrom 0 = .ok (.iconst 0, 1) := by decide +kernel
theorem dX2_rowsFrom_1 : decode cX2_rowsFrom 1 = .ok (.istore_n 3, 1) := by decide +kernel
theorem dX2_rowsFrom_2 : decode cX2_rowsFrom 2 = .ok (.iload_n 3, 1) := by decide +kernel
theorem dX2_rowsFrom_3 : decode cX2_rowsFrom 3 = .ok (.aload_n 0, 1) := by decide +kernel
theorem dX2_rowsFrom_4 : decode cX2_rowsFrom 4 = .ok (.getfield 34, 3) := by decide +kernel
theorem dX2_rowsFrom_7 : decode cX2_rowsFrom 7 = .ok (.getfield 39, 3) := by decide +kernel
theorem dX2_rowsFrom_10 : decode cX2_rowsFrom 10 = .ok (.if_icmp .ge 25, 3) := by decide +kernel
theorem dX2_rowsFrom_13 : decode cX2_rowsFrom 13 = .ok (.aload_n 0, 1) := by decide +kernel
theorem dX2_rowsFrom_14 : decode cX2_rowsFrom 14 = .ok (.getfield 18, 3) := by decide +kernel
theorem dX2_rowsFrom_17 : decode cX2_rowsFrom 17 = .ok (.iload_n 3, 1) := by decide +kernel
theorem dX2_rowsFrom_18 : decode cX2_rowsFrom 18 = .ok (.iload_n 3, 1) := by decide +kernel
theorem dX2_rowsFrom_19 : decode cX2_rowsFrom 19 = .ok (.iload_n 2, 1) := by decide +kernel
theorem dX2_rowsFrom_20 : decode cX2_rowsFrom 20 = .ok (.if_icmp .ne 7, 3) := by decide +kernel
theorem dX2_rowsFrom_23 : decode cX2_rowsFrom 23 = .ok (.iconst 1, 1) := by decide +kernel
theorem dX2_rowsFrom_24 : decode cX2_rowsFrom 24 = .ok (.goto 4, 3) := by decide +kernel
theorem dX2_rowsFrom_27 : decode cX2_rowsFrom 27 = .ok (.iconst 0, 1) := by decide +kernel
theorem dX2_rowsFrom_28 : decode cX2_rowsFrom 28 = .ok (.iastore, 1) := by decide +kernel
theorem dX2_rowsFrom_29 : decode cX2_rowsFrom 29 = .ok (.iinc 3 1, 3) := by decide +kernel
theorem dX2_rowsFrom_32 : decode cX2_rowsFrom 32 = .ok (.goto (-30), 3) := by decide +kernel
theorem dX2_rowsFrom_35 : decode cX2_rowsFrom 35 = .ok (.iconst 0, 1) := by decide +kernel
theorem dX2_rowsFrom_36 : decode cX2_rowsFrom 36 = .ok (.istore_n 3, 1) := by decide +kernel
theorem dX2_rowsFrom_37 : decode cX2_rowsFrom 37 = .ok (.iload_n 3, 1) := by decide +kernel
theorem dX2_rowsFrom_38 : decode cX2_rowsFrom 38 = .ok (.aload_n 0, 1) := by decide +kernel
theorem dX2_rowsFrom_39 : decode cX2_rowsFrom 39 = .ok (.getfield 35, 3) := by decide +kernel
theorem dX2_rowsFrom_42 : decode cX2_rowsFrom 42 = .ok (.if_icmp .ge 20, 3) := by decide +kernel
theorem dX2_rowsFrom_45 : decode cX2_rowsFrom 45 = .ok (.aload_n 0, 1) := by decide +kernel
theorem dX2_rowsFrom_46 : decode cX2_rowsFrom 46 = .ok (.iload_n 1, 1) := by decide +kernel
theorem dX2_rowsFrom_47 : decode cX2_rowsFrom 47 = .ok (.aload_n 0, 1) := by decide +kernel
theorem dX2_rowsFrom_48 : decode cX2_rowsFrom 48 = .ok (.getfield 9, 3) := by decide +kernel
theorem dX2_rowsFrom_51 : decode cX2_rowsFrom 51 = .ok (.iload_n 3, 1) := by decide +kernel
theorem dX2_rowsFrom_52 : decode cX2_rowsFrom 52 = .ok (.iaload, 1) := by decide +kernel
theorem dX2_rowsFrom_53 : decode cX2_rowsFrom 53 = .ok (.invokevirtual 44, 3) := by decide +kernel
theorem dX2_rowsFrom_56 : decode cX2_rowsFrom 56 = .ok (.iinc 3 1, 3) := by decide +kernel
theorem dX2_rowsFrom_59 : decode cX2_rowsFrom 59 = .ok (.goto (-22), 3) := by decide +kernel
theorem dX2_rowsFrom_62 : decode cX2_rowsFrom 62 = .ok (.iconst 0, 1) := by decide +kernel
theorem dX2_rowsFrom_63 : decode cX2_rowsFrom 63 = .ok (.istore_n 3, 1) := by decide +kernel
theorem dX2_rowsFrom_64 : decode cX2_rowsFrom 64 = .ok (.iconst 0, 1) := by decide +kernel
theorem dX2_rowsFrom_65 : decode cX2_rowsFrom 65 = .ok (.istore 4, 2) := by decide +kernel
theorem dX2_rowsFrom_67 : decode cX2_rowsFrom 67 = .ok (.iload 4, 2) := by decide +kernel
theorem dX2_rowsFrom_69 : decode cX2_rowsFrom 69 = .ok (.aload_n 0, 1) := by decide +kernel
theorem dX2_rowsFrom_70 : decode cX2_rowsFrom 70 = .ok (.getfield 34, 3) := by decide +kernel
theorem dX2_rowsFrom_73 : decode cX2_rowsFrom 73 = .ok (.getfield 39, 3) := by decide +kernel
theorem dX2_rowsFrom_76 : decode cX2_rowsFrom 76 = .ok (.if_icmp .ge 22, 3) := by decide +kernel
theorem dX2_rowsFrom_79 : decode cX2_rowsFrom 79 = .ok (.iload_n 3, 1) := by decide +kernel
theorem dX2_rowsFrom_80 : decode cX2_rowsFrom 80 = .ok (.aload_n 0, 1) := by decide +kernel
theorem dX2_rowsFrom_81 : decode cX2_rowsFrom 81 = .ok (.getfield 18, 3) := by decide +kernel
theorem dX2_rowsFrom_84 : decode cX2_rowsFrom 84 = .ok (.iload 4, 2) := by decide +kernel
theorem dX2_rowsFrom_86 : decode cX2_rowsFrom 86 = .ok (.iaload, 1) := by decide +kernel
theorem dX2_rowsFrom_87 : decode cX2_rowsFrom 87 = .ok (.iadd, 1) := by decide +kernel
theorem dX2_rowsFrom_88 : decode cX2_rowsFrom 88 = .ok (.ldc 48, 2) := by decide +kernel
theorem dX2_rowsFrom_90 : decode cX2_rowsFrom 90 = .ok (.irem, 1) := by decide +kernel
theorem dX2_rowsFrom_91 : decode cX2_rowsFrom 91 = .ok (.istore_n 3, 1) := by decide +kernel
theorem dX2_rowsFrom_92 : decode cX2_rowsFrom 92 = .ok (.iinc 4 1, 3) := by decide +kernel
theorem dX2_rowsFrom_95 : decode cX2_rowsFrom 95 = .ok (.goto (-28), 3) := by decide +kernel
theorem dX2_rowsFrom_98 : decode cX2_rowsFrom 98 = .ok (.iload_n 3, 1) := by decide +kernel
theorem dX2_rowsFrom_99 : decode cX2_rowsFrom 99 = .ok (.ireturn, 1) := by decide +kernel
theorem dX2_crossAll_0 : decode cX2_crossAll 0 = .ok (.iconst 0, 1) := by decide +kernel
theorem dX2_crossAll_1 : decode cX2_crossAll 1 = .ok (.istore_n 3, 1) := by decide +kernel
theorem dX2_crossAll_2 : decode cX2_crossAll 2 = .ok (.iload_n 3, 1) := by decide +kernel
theorem dX2_crossAll_3 : decode cX2_crossAll 3 = .ok (.aload_n 0, 1) := by decide +kernel
theorem dX2_crossAll_4 : decode cX2_crossAll 4 = .ok (.getfield 34, 3) := by decide +kernel
theorem dX2_crossAll_7 : decode cX2_crossAll 7 = .ok (.getfield 39, 3) := by decide +kernel
theorem dX2_crossAll_10 : decode cX2_crossAll 10 = .ok (.if_icmp .ge 16, 3) := by decide +kernel
theorem dX2_crossAll_13 : decode cX2_crossAll 13 = .ok (.aload_n 0, 1) := by decide +kernel
theorem dX2_crossAll_14 : decode cX2_crossAll 14 = .ok (.getfield 21, 3) := by decide +kernel
theorem dX2_crossAll_17 : decode cX2_crossAll 17 = .ok (.iload_n 3, 1) := by decide +kernel
theorem dX2_crossAll_18 : decode cX2_crossAll 18 = .ok (.iconst 0, 1) := by decide +kernel
theorem dX2_crossAll_19 : decode cX2_crossAll 19 = .ok (.iastore, 1) := by decide +kernel
theorem dX2_crossAll_20 : decode cX2_crossAll 20 = .ok (.iinc 3 1, 3) := by decide +kernel
theorem dX2_crossAll_23 : decode cX2_crossAll 23 = .ok (.goto (-21), 3) := by decide +kernel
theorem dX2_crossAll_26 : decode cX2_crossAll 26 = .ok (.iconst 0, 1) := by decide +kernel
theorem dX2_crossAll_27 : decode cX2_crossAll 27 = .ok (.istore_n 3, 1) := by decide +kernel
theorem dX2_crossAll_28 : decode cX2_crossAll 28 = .ok (.iload_n 3, 1) := by decide +kernel
theorem dX2_crossAll_29 : decode cX2_crossAll 29 = .ok (.aload_n 0, 1) := by decide +kernel
theorem dX2_crossAll_30 : decode cX2_crossAll 30 = .ok (.getfield 34, 3) := by decide +kernel
theorem dX2_crossAll_33 : decode cX2_crossAll 33 = .ok (.getfield 49, 3) := by decide +kernel
theorem dX2_crossAll_36 : decode cX2_crossAll 36 = .ok (.if_icmp .ge 94, 3) := by decide +kernel
theorem dX2_crossAll_39 : decode cX2_crossAll 39 = .ok (.aload_n 0, 1) := by decide +kernel
theorem dX2_crossAll_40 : decode cX2_crossAll 40 = .ok (.getfield 24, 3) := by decide +kernel
theorem dX2_crossAll_43 : decode cX2_crossAll 43 = .ok (.iload_n 1, 1) := by decide +kernel
theorem dX2_crossAll_44 : decode cX2_crossAll 44 = .ok (.iload_n 3, 1) := by decide +kernel
theorem dX2_crossAll_45 : decode cX2_crossAll 45 = .ok (.invokevirtual 52, 3) := by decide +kernel
theorem dX2_crossAll_48 : decode cX2_crossAll 48 = .ok (.iload_n 2, 1) := by decide +kernel
theorem dX2_crossAll_49 : decode cX2_crossAll 49 = .ok (.if_icmp .ne 75, 3) := by decide +kernel
theorem dX2_crossAll_52 : decode cX2_crossAll 52 = .ok (.aload_n 0, 1) := by decide +kernel
theorem dX2_crossAll_53 : decode cX2_crossAll 53 = .ok (.getfield 34, 3) := by decide +kernel
theorem dX2_crossAll_56 : decode cX2_crossAll 56 = .ok (.getfield 56, 3) := by decide +kernel
theorem dX2_crossAll_59 : decode cX2_crossAll 59 = .ok (.iload_n 3, 1) := by decide +kernel
theorem dX2_crossAll_60 : decode cX2_crossAll 60 = .ok (.iaload, 1) := by decide +kernel
theorem dX2_crossAll_61 : decode cX2_crossAll 61 = .ok (.istore 4, 2) := by decide +kernel
theorem dX2_crossAll_63 : decode cX2_crossAll 63 = .ok (.aload_n 0, 1) := by decide +kernel
theorem dX2_crossAll_64 : decode cX2_crossAll 64 = .ok (.getfield 34, 3) := by decide +kernel
theorem dX2_crossAll_67 : decode cX2_crossAll 67 = .ok (.getfield 59, 3) := by decide +kernel
theorem dX2_crossAll_70 : decode cX2_crossAll 70 = .ok (.iload_n 3, 1) := by decide +kernel
theorem dX2_crossAll_71 : decode cX2_crossAll 71 = .ok (.iaload, 1) := by decide +kernel
theorem dX2_crossAll_72 : decode cX2_crossAll 72 = .ok (.istore 5, 2) := by decide +kernel
theorem dX2_crossAll_74 : decode cX2_crossAll 74 = .ok (.aload_n 0, 1) := by decide +kernel
theorem dX2_crossAll_75 : decode cX2_crossAll 75 = .ok (.getfield 21, 3) := by decide +kernel
theorem dX2_crossAll_78 : decode cX2_crossAll 78 = .ok (.iload 4, 2) := by decide +kernel
theorem dX2_crossAll_80 : decode cX2_crossAll 80 = .ok (.aload_n 0, 1) := by decide +kernel
theorem dX2_crossAll_81 : decode cX2_crossAll 81 = .ok (.getfield 21, 3) := by decide +kernel
theorem dX2_crossAll_84 : decode cX2_crossAll 84 = .ok (.iload 4, 2) := by decide +kernel
theorem dX2_crossAll_86 : decode cX2_crossAll 86 = .ok (.iaload, 1) := by decide +kernel
theorem dX2_crossAll_87 : decode cX2_crossAll 87 = .ok (.aload_n 0, 1) := by decide +kernel
theorem dX2_crossAll_88 : decode cX2_crossAll 88 = .ok (.getfield 18, 3) := by decide +kernel
theorem dX2_crossAll_91 : decode cX2_crossAll 91 = .ok (.iload 5, 2) := by decide +kernel
theorem dX2_crossAll_93 : decode cX2_crossAll 93 = .ok (.iaload, 1) := by decide +kernel
theorem dX2_crossAll_94 : decode cX2_crossAll 94 = .ok (.iadd, 1) := by decide +kernel
theorem dX2_crossAll_95 : decode cX2_crossAll 95 = .ok (.ldc 48, 2) := by decide +kernel
theorem dX2_crossAll_97 : decode cX2_crossAll 97 = .ok (.irem, 1) := by decide +kernel
theorem dX2_crossAll_98 : decode cX2_crossAll 98 = .ok (.iastore, 1) := by decide +kernel
theorem dX2_crossAll_99 : decode cX2_crossAll 99 = .ok (.aload_n 0, 1) := by decide +kernel
theorem dX2_crossAll_100 : decode cX2_crossAll 100 = .ok (.getfield 21, 3) := by decide +kernel
theorem dX2_crossAll_103 : decode cX2_crossAll 103 = .ok (.iload 5, 2) := by decide +kernel
theorem dX2_crossAll_105 : decode cX2_crossAll 105 = .ok (.aload_n 0, 1) := by decide +kernel
theorem dX2_crossAll_106 : decode cX2_crossAll 106 = .ok (.getfield 21, 3) := by decide +kernel
theorem dX2_crossAll_109 : decode cX2_crossAll 109 = .ok (.iload 5, 2) := by decide +kernel
theorem dX2_crossAll_111 : decode cX2_crossAll 111 = .ok (.iaload, 1) := by decide +kernel
theorem dX2_crossAll_112 : decode cX2_crossAll 112 = .ok (.aload_n 0, 1) := by decide +kernel
theorem dX2_crossAll_113 : decode cX2_crossAll 113 = .ok (.getfield 18, 3) := by decide +kernel
theorem dX2_crossAll_116 : decode cX2_crossAll 116 = .ok (.iload 4, 2) := by decide +kernel
theorem dX2_crossAll_118 : decode cX2_crossAll 118 = .ok (.iaload, 1) := by decide +kernel
theorem dX2_crossAll_119 : decode cX2_crossAll 119 = .ok (.iadd, 1) := by decide +kernel
theorem dX2_crossAll_120 : decode cX2_crossAll 120 = .ok (.ldc 48, 2) := by decide +kernel
theorem dX2_crossAll_122 : decode cX2_crossAll 122 = .ok (.irem, 1) := by decide +kernel
theorem dX2_crossAll_123 : decode cX2_crossAll 123 = .ok (.iastore, 1) := by decide +kernel
theorem dX2_crossAll_124 : decode cX2_crossAll 124 = .ok (.iinc 3 1, 3) := by decide +kernel
theorem dX2_crossAll_127 : decode cX2_crossAll 127 = .ok (.goto (-99), 3) := by decide +kernel
theorem dX2_crossAll_130 : decode cX2_crossAll 130 = .ok (.aload_n 0, 1) := by decide +kernel
theorem dX2_crossAll_131 : decode cX2_crossAll 131 = .ok (.getfield 18, 3) := by decide +kernel
theorem dX2_crossAll_134 : decode cX2_crossAll 134 = .ok (.astore_n 3, 1) := by decide +kernel
theorem dX2_crossAll_135 : decode cX2_crossAll 135 = .ok (.aload_n 0, 1) := by decide +kernel
theorem dX2_crossAll_136 : decode cX2_crossAll 136 = .ok (.aload_n 0, 1) := by decide +kernel
theorem dX2_crossAll_137 : decode cX2_crossAll 137 = .ok (.getfield 21, 3) := by decide +kernel
theorem dX2_crossAll_140 : decode cX2_crossAll 140 = .ok (.putfield 18, 3) := by decide +kernel
theorem dX2_crossAll_143 : decode cX2_crossAll 143 = .ok (.aload_n 0, 1) := by decide +kernel
theorem dX2_crossAll_144 : decode cX2_crossAll 144 = .ok (.aload_n 3, 1) := by decide +kernel
theorem dX2_crossAll_145 : decode cX2_crossAll 145 = .ok (.putfield 21, 3) := by decide +kernel
theorem dX2_crossAll_148 : decode cX2_crossAll 148 = .ok (.return_, 1) := by decide +kernel
theorem dX2_endsOf_0 : decode cX2_endsOf 0 = .ok (.iconst 1, 1) := by decide +kernel
theorem dX2_endsOf_1 : decode cX2_endsOf 1 = .ok (.aload_n 0, 1) := by decide +kernel
theorem dX2_endsOf_2 : decode cX2_endsOf 2 = .ok (.getfield 34, 3) := by decide +kernel
theorem dX2_endsOf_5 : decode cX2_endsOf 5 = .ok (.getfield 39, 3) := by decide +kernel
theorem dX2_endsOf_8 : decode cX2_endsOf 8 = .ok (.ishl, 1) := by decide +kernel
theorem dX2_endsOf_9 : decode cX2_endsOf 9 = .ok (.iconst 1, 1) := by decide +kernel
theorem dX2_endsOf_10 : decode cX2_endsOf 10 = .ok (.isub, 1) := by decide +kernel
theorem dX2_endsOf_11 : decode cX2_endsOf 11 = .ok (.istore_n 2, 1) := by decide +kernel
theorem dX2_endsOf_12 : decode cX2_endsOf 12 = .ok (.iconst 0, 1) := by decide +kernel
theorem dX2_endsOf_13 : decode cX2_endsOf 13 = .ok (.istore_n 3, 1) := by decide +kernel
theorem dX2_endsOf_14 : decode cX2_endsOf 14 = .ok (.iload_n 3, 1) := by decide +kernel
theorem dX2_endsOf_15 : decode cX2_endsOf 15 = .ok (.aload_n 0, 1) := by decide +kernel
theorem dX2_endsOf_16 : decode cX2_endsOf 16 = .ok (.getfield 35, 3) := by decide +kernel
theorem dX2_endsOf_19 : decode cX2_endsOf 19 = .ok (.if_icmp .ge 22, 3) := by decide +kernel
theorem dX2_endsOf_22 : decode cX2_endsOf 22 = .ok (.aload_n 0, 1) := by decide +kernel
theorem dX2_endsOf_23 : decode cX2_endsOf 23 = .ok (.iload_n 1, 1) := by decide +kernel
theorem dX2_endsOf_24 : decode cX2_endsOf 24 = .ok (.iload_n 2, 1) := by decide +kernel
theorem dX2_endsOf_25 : decode cX2_endsOf 25 = .ok (.aload_n 0, 1) := by decide +kernel
theorem dX2_endsOf_26 : decode cX2_endsOf 26 = .ok (.getfield 9, 3) := by decide +kernel
theorem dX2_endsOf_29 : decode cX2_endsOf 29 = .ok (.iload_n 3, 1) := by decide +kernel
theorem dX2_endsOf_30 : decode cX2_endsOf 30 = .ok (.iaload, 1) := by decide +kernel
theorem dX2_endsOf_31 : decode cX2_endsOf 31 = .ok (.invokevirtual 62, 3) := by decide +kernel
theorem dX2_endsOf_34 : decode cX2_endsOf 34 = .ok (.istore_n 2, 1) := by decide +kernel
theorem dX2_endsOf_35 : decode cX2_endsOf 35 = .ok (.iinc 3 1, 3) := by decide +kernel
theorem dX2_endsOf_38 : decode cX2_endsOf 38 = .ok (.goto (-24), 3) := by decide +kernel
theorem dX2_endsOf_41 : decode cX2_endsOf 41 = .ok (.iload_n 2, 1) := by decide +kernel
theorem dX2_endsOf_42 : decode cX2_endsOf 42 = .ok (.ireturn, 1) := by decide +kernel
theorem dX2_endsBehind_0 : decode cX2_endsBehind 0 = .ok (.iconst 0, 1) := by decide +kernel
theorem dX2_endsBehind_1 : decode cX2_endsBehind 1 = .ok (.istore 4, 2) := by decide +kernel
theorem dX2_endsBehind_3 : decode cX2_endsBehind 3 = .ok (.iconst 0, 1) := by decide +kernel
theorem dX2_endsBehind_4 : decode cX2_endsBehind 4 = .ok (.istore 5, 2) := by decide +kernel
theorem dX2_endsBehind_6 : decode cX2_endsBehind 6 = .ok (.iload 5, 2) := by decide +kernel
theorem dX2_endsBehind_8 : decode cX2_endsBehind 8 = .ok (.aload_n 0, 1) := by decide +kernel
theorem dX2_endsBehind_9 : decode cX2_endsBehind 9 = .ok (.getfield 34, 3) := by decide +kernel
theorem dX2_endsBehind_12 : decode cX2_endsBehind 12 = .ok (.getfield 49, 3) := by decide +kernel
theorem dX2_endsBehind_15 : decode cX2_endsBehind 15 = .ok (.if_icmp .ge 83, 3) := by decide +kernel
theorem dX2_endsBehind_18 : decode cX2_endsBehind 18 = .ok (.aload_n 0, 1) := by decide +kernel
theorem dX2_endsBehind_19 : decode cX2_endsBehind 19 = .ok (.getfield 24, 3) := by decide +kernel
theorem dX2_endsBehind_22 : decode cX2_endsBehind 22 = .ok (.iload_n 1, 1) := by decide +kernel
theorem dX2_endsBehind_23 : decode cX2_endsBehind 23 = .ok (.iload 5, 2) := by decide +kernel
theorem dX2_endsBehind_25 : decode cX2_endsBehind 25 = .ok (.invokevirtual 52, 3) := by decide +kernel
theorem dX2_endsBehind_28 : decode cX2_endsBehind 28 = .ok (.iload_n 3, 1) := by decide +kernel
theorem dX2_endsBehind_29 : decode cX2_endsBehind 29 = .ok (.if_icmp .ne 63, 3) := by decide +kernel
theorem dX2_endsBehind_32 : decode cX2_endsBehind 32 = .ok (.iload 4, 2) := by decide +kernel
theorem dX2_endsBehind_34 : decode cX2_endsBehind 34 = .ok (.iload_n 2, 1) := by decide +kernel
theorem dX2_endsBehind_35 : decode cX2_endsBehind 35 = .ok (.aload_n 0, 1) := by decide +kernel
theorem dX2_endsBehind_36 : decode cX2_endsBehind 36 = .ok (.getfield 34, 3) := by decide +kernel
theorem dX2_endsBehind_39 : decode cX2_endsBehind 39 = .ok (.getfield 56, 3) := by decide +kernel
theorem dX2_endsBehind_42 : decode cX2_endsBehind 42 = .ok (.iload 5, 2) := by decide +kernel
theorem dX2_endsBehind_44 : decode cX2_endsBehind 44 = .ok (.iaload, 1) := by decide +kernel
theorem dX2_endsBehind_45 : decode cX2_endsBehind 45 = .ok (.ishr, 1) := by decide +kernel
theorem dX2_endsBehind_46 : decode cX2_endsBehind 46 = .ok (.iconst 1, 1) := by decide +kernel
theorem dX2_endsBehind_47 : decode cX2_endsBehind 47 = .ok (.iand, 1) := by decide +kernel
theorem dX2_endsBehind_48 : decode cX2_endsBehind 48 = .ok (.aload_n 0, 1) := by decide +kernel
theorem dX2_endsBehind_49 : decode cX2_endsBehind 49 = .ok (.getfield 34, 3) := by decide +kernel
theorem dX2_endsBehind_52 : decode cX2_endsBehind 52 = .ok (.getfield 59, 3) := by decide +kernel
theorem dX2_endsBehind_55 : decode cX2_endsBehind 55 = .ok (.iload 5, 2) := by decide +kernel
theorem dX2_endsBehind_57 : decode cX2_endsBehind 57 = .ok (.iaload, 1) := by decide +kernel
theorem dX2_endsBehind_58 : decode cX2_endsBehind 58 = .ok (.ishl, 1) := by decide +kernel
theorem dX2_endsBehind_59 : decode cX2_endsBehind 59 = .ok (.ior, 1) := by decide +kernel
theorem dX2_endsBehind_60 : decode cX2_endsBehind 60 = .ok (.istore 4, 2) := by decide +kernel
theorem dX2_endsBehind_62 : decode cX2_endsBehind 62 = .ok (.iload 4, 2) := by decide +kernel
theorem dX2_endsBehind_64 : decode cX2_endsBehind 64 = .ok (.iload_n 2, 1) := by decide +kernel
theorem dX2_endsBehind_65 : decode cX2_endsBehind 65 = .ok (.aload_n 0, 1) := by decide +kernel
theorem dX2_endsBehind_66 : decode cX2_endsBehind 66 = .ok (.getfield 34, 3) := by decide +kernel
theorem dX2_endsBehind_69 : decode cX2_endsBehind 69 = .ok (.getfield 59, 3) := by decide +kernel
theorem dX2_endsBehind_72 : decode cX2_endsBehind 72 = .ok (.iload 5, 2) := by decide +kernel
theorem dX2_endsBehind_74 : decode cX2_endsBehind 74 = .ok (.iaload, 1) := by decide +kernel
theorem dX2_endsBehind_75 : decode cX2_endsBehind 75 = .ok (.ishr, 1) := by decide +kernel
theorem dX2_endsBehind_76 : decode cX2_endsBehind 76 = .ok (.iconst 1, 1) := by decide +kernel
theorem dX2_endsBehind_77 : decode cX2_endsBehind 77 = .ok (.iand, 1) := by decide +kernel
theorem dX2_endsBehind_78 : decode cX2_endsBehind 78 = .ok (.aload_n 0, 1) := by decide +kernel
theorem dX2_endsBehind_79 : decode cX2_endsBehind 79 = .ok (.getfield 34, 3) := by decide +kernel
theorem dX2_endsBehind_82 : decode cX2_endsBehind 82 = .ok (.getfield 56, 3) := by decide +kernel
theorem dX2_endsBehind_85 : decode cX2_endsBehind 85 = .ok (.iload 5, 2) := by decide +kernel
theorem dX2_endsBehind_87 : decode cX2_endsBehind 87 = .ok (.iaload, 1) := by decide +kernel
theorem dX2_endsBehind_88 : decode cX2_endsBehind 88 = .ok (.ishl, 1) := by decide +kernel
theorem dX2_endsBehind_89 : decode cX2_endsBehind 89 = .ok (.ior, 1) := by decide +kernel
theorem dX2_endsBehind_90 : decode cX2_endsBehind 90 = .ok (.istore 4, 2) := by decide +kernel
theorem dX2_endsBehind_92 : decode cX2_endsBehind 92 = .ok (.iinc 5 1, 3) := by decide +kernel
theorem dX2_endsBehind_95 : decode cX2_endsBehind 95 = .ok (.goto (-89), 3) := by decide +kernel
theorem dX2_endsBehind_98 : decode cX2_endsBehind 98 = .ok (.iload 4, 2) := by decide +kernel
theorem dX2_endsBehind_100 : decode cX2_endsBehind 100 = .ok (.ireturn, 1) := by decide +kernel
theorem dX2_kindsThatCan_0 : decode cX2_kindsThatCan 0 = .ok (.iconst 0, 1) := by decide +kernel
theorem dX2_kindsThatCan_1 : decode cX2_kindsThatCan 1 = .ok (.istore_n 1, 1) := by decide +kernel
theorem dX2_kindsThatCan_2 : decode cX2_kindsThatCan 2 = .ok (.iconst 0, 1) := by decide +kernel
theorem dX2_kindsThatCan_3 : decode cX2_kindsThatCan 3 = .ok (.istore_n 2, 1) := by decide +kernel
theorem dX2_kindsThatCan_4 : decode cX2_kindsThatCan 4 = .ok (.iload_n 2, 1) := by decide +kernel
theorem dX2_kindsThatCan_5 : decode cX2_kindsThatCan 5 = .ok (.aload_n 0, 1) := by decide +kernel
theorem dX2_kindsThatCan_6 : decode cX2_kindsThatCan 6 = .ok (.getfield 34, 3) := by decide +kernel
theorem dX2_kindsThatCan_9 : decode cX2_kindsThatCan 9 = .ok (.getfield 66, 3) := by decide +kernel
theorem dX2_kindsThatCan_12 : decode cX2_kindsThatCan 12 = .ok (.if_icmp .ge 23, 3) := by decide +kernel
theorem dX2_kindsThatCan_15 : decode cX2_kindsThatCan 15 = .ok (.aload_n 0, 1) := by decide +kernel
theorem dX2_kindsThatCan_16 : decode cX2_kindsThatCan 16 = .ok (.iload_n 2, 1) := by decide +kernel
theorem dX2_kindsThatCan_17 : decode cX2_kindsThatCan 17 = .ok (.invokevirtual 69, 3) := by decide +kernel
theorem dX2_kindsThatCan_20 : decode cX2_kindsThatCan 20 = .ok (.ifCond .eq 9, 3) := by decide +kernel
theorem dX2_kindsThatCan_23 : decode cX2_kindsThatCan 23 = .ok (.iload_n 1, 1) := by decide +kernel
theorem dX2_kindsThatCan_24 : decode cX2_kindsThatCan 24 = .ok (.iconst 1, 1) := by decide +kernel
theorem dX2_kindsThatCan_25 : decode cX2_kindsThatCan 25 = .ok (.iload_n 2, 1) := by decide +kernel
theorem dX2_kindsThatCan_26 : decode cX2_kindsThatCan 26 = .ok (.ishl, 1) := by decide +kernel
theorem dX2_kindsThatCan_27 : decode cX2_kindsThatCan 27 = .ok (.ior, 1) := by decide +kernel
theorem dX2_kindsThatCan_28 : decode cX2_kindsThatCan 28 = .ok (.istore_n 1, 1) := by decide +kernel
theorem dX2_kindsThatCan_29 : decode cX2_kindsThatCan 29 = .ok (.iinc 2 1, 3) := by decide +kernel
theorem dX2_kindsThatCan_32 : decode cX2_kindsThatCan 32 = .ok (.goto (-28), 3) := by decide +kernel
theorem dX2_kindsThatCan_35 : decode cX2_kindsThatCan 35 = .ok (.iload_n 1, 1) := by decide +kernel
theorem dX2_kindsThatCan_36 : decode cX2_kindsThatCan 36 = .ok (.ireturn, 1) := by decide +kernel
theorem dX2_fenceToWatch_0 : decode cX2_fenceToWatch 0 = .ok (.iconst 0, 1) := by decide +kernel
theorem dX2_fenceToWatch_1 : decode cX2_fenceToWatch 1 = .ok (.istore_n 1, 1) := by decide +kernel
theorem dX2_fenceToWatch_2 : decode cX2_fenceToWatch 2 = .ok (.iload_n 1, 1) := by decide +kernel
theorem dX2_fenceToWatch_3 : decode cX2_fenceToWatch 3 = .ok (.aload_n 0, 1) := by decide +kernel
theorem dX2_fenceToWatch_4 : decode cX2_fenceToWatch 4 = .ok (.getfield 34, 3) := by decide +kernel
theorem dX2_fenceToWatch_7 : decode cX2_fenceToWatch 7 = .ok (.getfield 66, 3) := by decide +kernel
theorem dX2_fenceToWatch_10 : decode cX2_fenceToWatch 10 = .ok (.if_icmp .ge 20, 3) := by decide +kernel
theorem dX2_fenceToWatch_13 : decode cX2_fenceToWatch 13 = .ok (.aload_n 0, 1) := by decide +kernel
theorem dX2_fenceToWatch_14 : decode cX2_fenceToWatch 14 = .ok (.getfield 15, 3) := by decide +kernel
theorem dX2_fenceToWatch_17 : decode cX2_fenceToWatch 17 = .ok (.iload_n 1, 1) := by decide +kernel
theorem dX2_fenceToWatch_18 : decode cX2_fenceToWatch 18 = .ok (.aload_n 0, 1) := by decide +kernel
theorem dX2_fenceToWatch_19 : decode cX2_fenceToWatch 19 = .ok (.iload_n 1, 1) := by decide +kernel
theorem dX2_fenceToWatch_20 : decode cX2_fenceToWatch 20 = .ok (.invokevirtual 69, 3) := by decide +kernel
theorem dX2_fenceToWatch_23 : decode cX2_fenceToWatch 23 = .ok (.iastore, 1) := by decide +kernel
theorem dX2_fenceToWatch_24 : decode cX2_fenceToWatch 24 = .ok (.iinc 1 1, 3) := by decide +kernel
theorem dX2_fenceToWatch_27 : decode cX2_fenceToWatch 27 = .ok (.goto (-25), 3) := by decide +kernel
theorem dX2_fenceToWatch_30 : decode cX2_fenceToWatch 30 = .ok (.bipush (-9), 2) := by decide +kernel
theorem dX2_fenceToWatch_32 : decode cX2_fenceToWatch 32 = .ok (.istore_n 1, 1) := by decide +kernel
theorem dX2_fenceToWatch_33 : decode cX2_fenceToWatch 33 = .ok (.iconst 5, 1) := by decide +kernel
theorem dX2_fenceToWatch_34 : decode cX2_fenceToWatch 34 = .ok (.istore_n 2, 1) := by decide +kernel
theorem dX2_fenceToWatch_35 : decode cX2_fenceToWatch 35 = .ok (.iconst 0, 1) := by decide +kernel
theorem dX2_fenceToWatch_36 : decode cX2_fenceToWatch 36 = .ok (.istore_n 3, 1) := by decide +kernel
theorem dX2_fenceToWatch_37 : decode cX2_fenceToWatch 37 = .ok (.iload_n 3, 1) := by decide +kernel
theorem dX2_fenceToWatch_38 : decode cX2_fenceToWatch 38 = .ok (.aload_n 0, 1) := by decide +kernel
theorem dX2_fenceToWatch_39 : decode cX2_fenceToWatch 39 = .ok (.getfield 34, 3) := by decide +kernel
theorem dX2_fenceToWatch_42 : decode cX2_fenceToWatch 42 = .ok (.getfield 49, 3) := by decide +kernel
theorem dX2_fenceToWatch_45 : decode cX2_fenceToWatch 45 = .ok (.if_icmp .ge 32, 3) := by decide +kernel
theorem dX2_fenceToWatch_48 : decode cX2_fenceToWatch 48 = .ok (.aload_n 0, 1) := by decide +kernel
theorem dX2_fenceToWatch_49 : decode cX2_fenceToWatch 49 = .ok (.iload_n 3, 1) := by decide +kernel
theorem dX2_fenceToWatch_50 : decode cX2_fenceToWatch 50 = .ok (.invokevirtual 73, 3) := by decide +kernel
theorem dX2_fenceToWatch_53 : decode cX2_fenceToWatch 53 = .ok (.istore 4, 2) := by decide +kernel
theorem dX2_fenceToWatch_55 : decode cX2_fenceToWatch 55 = .ok (.iload 4, 2) := by decide +kernel
theorem dX2_fenceToWatch_57 : decode cX2_fenceToWatch 57 = .ok (.ifCond .le 14, 3) := by decide +kernel
theorem dX2_fenceToWatch_60 : decode cX2_fenceToWatch 60 = .ok (.iload 4, 2) := by decide +kernel
theorem dX2_fenceToWatch_62 : decode cX2_fenceToWatch 62 = .ok (.iload_n 2, 1) := by decide +kernel
theorem dX2_fenceToWatch_63 : decode cX2_fenceToWatch 63 = .ok (.if_icmp .ge 8, 3) := by decide +kernel
theorem dX2_fenceToWatch_66 : decode cX2_fenceToWatch 66 = .ok (.iload 4, 2) := by decide +kernel
theorem dX2_fenceToWatch_68 : decode cX2_fenceToWatch 68 = .ok (.istore_n 2, 1) := by decide +kernel
theorem dX2_fenceToWatch_69 : decode cX2_fenceToWatch 69 = .ok (.iload_n 3, 1) := by decide +kernel
theorem dX2_fenceToWatch_70 : decode cX2_fenceToWatch 70 = .ok (.istore_n 1, 1) := by decide +kernel
theorem dX2_fenceToWatch_71 : decode cX2_fenceToWatch 71 = .ok (.iinc 3 1, 3) := by decide +kernel
theorem dX2_fenceToWatch_74 : decode cX2_fenceToWatch 74 = .ok (.goto (-37), 3) := by decide +kernel
theorem dX2_fenceToWatch_77 : decode cX2_fenceToWatch 77 = .ok (.iload_n 1, 1) := by decide +kernel
theorem dX2_fenceToWatch_78 : decode cX2_fenceToWatch 78 = .ok (.ireturn, 1) := by decide +kernel
theorem dX2_greatestCrowd_0 : decode cX2_greatestCrowd 0 = .ok (.iconst 0, 1) := by decide +kernel
theorem dX2_greatestCrowd_1 : decode cX2_greatestCrowd 1 = .ok (.istore_n 2, 1) := by decide +kernel
theorem dX2_greatestCrowd_2 : decode cX2_greatestCrowd 2 = .ok (.iconst 0, 1) := by decide +kernel
theorem dX2_greatestCrowd_3 : decode cX2_greatestCrowd 3 = .ok (.istore_n 3, 1) := by decide +kernel
theorem dX2_greatestCrowd_4 : decode cX2_greatestCrowd 4 = .ok (.iload_n 3, 1) := by decide +kernel
theorem dX2_greatestCrowd_5 : decode cX2_greatestCrowd 5 = .ok (.aload_n 0, 1) := by decide +kernel
theorem dX2_greatestCrowd_6 : decode cX2_greatestCrowd 6 = .ok (.getfield 34, 3) := by decide +kernel
theorem dX2_greatestCrowd_9 : decode cX2_greatestCrowd 9 = .ok (.getfield 66, 3) := by decide +kernel
theorem dX2_greatestCrowd_12 : decode cX2_greatestCrowd 12 = .ok (.if_icmp .ge 84, 3) := by decide +kernel
theorem dX2_greatestCrowd_15 : decode cX2_greatestCrowd 15 = .ok (.iconst 0, 1) := by decide +kernel
theorem dX2_greatestCrowd_16 : decode cX2_greatestCrowd 16 = .ok (.istore 4, 2) := by decide +kernel
theorem dX2_greatestCrowd_18 : decode cX2_greatestCrowd 18 = .ok (.iconst 0, 1) := by decide +kernel
theorem dX2_greatestCrowd_19 : decode cX2_greatestCrowd 19 = .ok (.istore 5, 2) := by decide +kernel
theorem dX2_greatestCrowd_21 : decode cX2_greatestCrowd 21 = .ok (.iload 5, 2) := by decide +kernel
theorem dX2_greatestCrowd_23 : decode cX2_greatestCrowd 23 = .ok (.aload_n 0, 1) := by decide +kernel
theorem dX2_greatestCrowd_24 : decode cX2_greatestCrowd 24 = .ok (.getfield 34, 3) := by decide +kernel
theorem dX2_greatestCrowd_27 : decode cX2_greatestCrowd 27 = .ok (.getfield 66, 3) := by decide +kernel
theorem dX2_greatestCrowd_30 : decode cX2_greatestCrowd 30 = .ok (.if_icmp .ge 53, 3) := by decide +kernel
theorem dX2_greatestCrowd_33 : decode cX2_greatestCrowd 33 = .ok (.aload_n 0, 1) := by decide +kernel
theorem dX2_greatestCrowd_34 : decode cX2_greatestCrowd 34 = .ok (.iload_n 3, 1) := by decide +kernel
theorem dX2_greatestCrowd_35 : decode cX2_greatestCrowd 35 = .ok (.iload_n 1, 1) := by decide +kernel
theorem dX2_greatestCrowd_36 : decode cX2_greatestCrowd 36 = .ok (.invokevirtual 76, 3) := by decide +kernel
theorem dX2_greatestCrowd_39 : decode cX2_greatestCrowd 39 = .ok (.ifCond .eq 38, 3) := by decide +kernel
theorem dX2_greatestCrowd_42 : decode cX2_greatestCrowd 42 = .ok (.aload_n 0, 1) := by decide +kernel
theorem dX2_greatestCrowd_43 : decode cX2_greatestCrowd 43 = .ok (.iload 5, 2) := by decide +kernel
theorem dX2_greatestCrowd_45 : decode cX2_greatestCrowd 45 = .ok (.iload_n 1, 1) := by decide +kernel
theorem dX2_greatestCrowd_46 : decode cX2_greatestCrowd 46 = .ok (.invokevirtual 76, 3) := by decide +kernel
theorem dX2_greatestCrowd_49 : decode cX2_greatestCrowd 49 = .ok (.ifCond .eq 28, 3) := by decide +kernel
theorem dX2_greatestCrowd_52 : decode cX2_greatestCrowd 52 = .ok (.aload_n 0, 1) := by decide +kernel
theorem dX2_greatestCrowd_53 : decode cX2_greatestCrowd 53 = .ok (.getfield 24, 3) := by decide +kernel
theorem dX2_greatestCrowd_56 : decode cX2_greatestCrowd 56 = .ok (.iload_n 3, 1) := by decide +kernel
theorem dX2_greatestCrowd_57 : decode cX2_greatestCrowd 57 = .ok (.iload_n 1, 1) := by decide +kernel
theorem dX2_greatestCrowd_58 : decode cX2_greatestCrowd 58 = .ok (.invokevirtual 52, 3) := by decide +kernel
theorem dX2_greatestCrowd_61 : decode cX2_greatestCrowd 61 = .ok (.aload_n 0, 1) := by decide +kernel
theorem dX2_greatestCrowd_62 : decode cX2_greatestCrowd 62 = .ok (.getfield 24, 3) := by decide +kernel
theorem dX2_greatestCrowd_65 : decode cX2_greatestCrowd 65 = .ok (.iload 5, 2) := by decide +kernel
theorem dX2_greatestCrowd_67 : decode cX2_greatestCrowd 67 = .ok (.iload_n 1, 1) := by decide +kernel
theorem dX2_greatestCrowd_68 : decode cX2_greatestCrowd 68 = .ok (.invokevirtual 52, 3) := by decide +kernel
theorem dX2_greatestCrowd_71 : decode cX2_greatestCrowd 71 = .ok (.if_icmp .ne 6, 3) := by decide +kernel
theorem dX2_greatestCrowd_74 : decode cX2_greatestCrowd 74 = .ok (.iinc 4 1, 3) := by decide +kernel
theorem dX2_greatestCrowd_77 : decode cX2_greatestCrowd 77 = .ok (.iinc 5 1, 3) := by decide +kernel
theorem dX2_greatestCrowd_80 : decode cX2_greatestCrowd 80 = .ok (.goto (-59), 3) := by decide +kernel
theorem dX2_greatestCrowd_83 : decode cX2_greatestCrowd 83 = .ok (.iload_n 2, 1) := by decide +kernel
theorem dX2_greatestCrowd_84 : decode cX2_greatestCrowd 84 = .ok (.iload 4, 2) := by decide +kernel
theorem dX2_greatestCrowd_86 : decode cX2_greatestCrowd 86 = .ok (.invokestatic 80, 3) := by decide +kernel
theorem dX2_greatestCrowd_89 : decode cX2_greatestCrowd 89 = .ok (.istore_n 2, 1) := by decide +kernel
theorem dX2_greatestCrowd_90 : decode cX2_greatestCrowd 90 = .ok (.iinc 3 1, 3) := by decide +kernel
theorem dX2_greatestCrowd_93 : decode cX2_greatestCrowd 93 = .ok (.goto (-89), 3) := by decide +kernel
theorem dX2_greatestCrowd_96 : decode cX2_greatestCrowd 96 = .ok (.iload_n 2, 1) := by decide +kernel
theorem dX2_greatestCrowd_97 : decode cX2_greatestCrowd 97 = .ok (.ireturn, 1) := by decide +kernel
theorem dX2_comesTo_0 : decode cX2_comesTo 0 = .ok (.aload_n 0, 1) := by decide +kernel
theorem dX2_comesTo_1 : decode cX2_comesTo 1 = .ok (.getfield 15, 3) := by decide +kernel
theorem dX2_comesTo_4 : decode cX2_comesTo 4 = .ok (.iload_n 1, 1) := by decide +kernel
theorem dX2_comesTo_5 : decode cX2_comesTo 5 = .ok (.iaload, 1) := by decide +kernel
theorem dX2_comesTo_6 : decode cX2_comesTo 6 = .ok (.aload_n 0, 1) := by decide +kernel
theorem dX2_comesTo_7 : decode cX2_comesTo 7 = .ok (.getfield 34, 3) := by decide +kernel
theorem dX2_comesTo_10 : decode cX2_comesTo 10 = .ok (.iload_n 2, 1) := by decide +kernel
theorem dX2_comesTo_11 : decode cX2_comesTo 11 = .ok (.invokevirtual 85, 3) := by decide +kernel
theorem dX2_comesTo_14 : decode cX2_comesTo 14 = .ok (.iand, 1) := by decide +kernel
theorem dX2_comesTo_15 : decode cX2_comesTo 15 = .ok (.ifCond .eq 7, 3) := by decide +kernel
theorem dX2_comesTo_18 : decode cX2_comesTo 18 = .ok (.iconst 1, 1) := by decide +kernel
theorem dX2_comesTo_19 : decode cX2_comesTo 19 = .ok (.goto 4, 3) := by decide +kernel
theorem dX2_comesTo_22 : decode cX2_comesTo 22 = .ok (.iconst 0, 1) := by decide +kernel
theorem dX2_comesTo_23 : decode cX2_comesTo 23 = .ok (.ireturn, 1) := by decide +kernel
theorem dX3_init_0 : decode cX3_init 0 = .ok (.aload_n 0, 1) := by decide +kernel
theorem dX3_init_1 : decode cX3_init 1 = .ok (.invokespecial 1, 3) := by decide +kernel
theorem dX3_init_4 : decode cX3_init 4 = .ok (.aload_n 0, 1) := by decide +kernel
theorem dX3_init_5 : decode cX3_init 5 = .ok (.new 7, 3) := by decide +kernel
theorem dX3_init_8 : decode cX3_init 8 = .ok (.dup, 1) := by decide +kernel
theorem dX3_init_9 : decode cX3_init 9 = .ok (.invokespecial 9, 3) := by decide +kernel
theorem dX3_init_12 : decode cX3_init 12 = .ok (.putfield 10, 3) := by decide +kernel
theorem dX3_init_15 : decode cX3_init 15 = .ok (.aload_n 0, 1) := by decide +kernel
theorem dX3_init_16 : decode cX3_init 16 = .ok (.new 16, 3) := by decide +kernel
theorem dX3_init_19 : decode cX3_init 19 = .ok (.dup, 1) := by decide +kernel
theorem dX3_init_20 : decode cX3_init 20 = .ok (.invokespecial 18, 3) := by decide +kernel
theorem dX3_init_23 : decode cX3_init 23 = .ok (.putfield 19, 3) := by decide +kernel
theorem dX3_init_26 : decode cX3_init 26 = .ok (.return_, 1) := by decide +kernel
theorem dX3_take_0 : decode cX3_take 0 = .ok (.aload_n 0, 1) := by decide +kernel
theorem dX3_take_1 : decode cX3_take 1 = .ok (.getfield 10, 3) := by decide +kernel
theorem dX3_take_4 : decode cX3_take 4 = .ok (.aload_n 1, 1) := by decide +kernel
theorem dX3_take_5 : decode cX3_take 5 = .ok (.invokevirtual 23, 3) := by decide +kernel
theorem dX3_take_8 : decode cX3_take 8 = .ok (.aload_n 0, 1) := by decide +kernel
theorem dX3_take_9 : decode cX3_take 9 = .ok (.getfield 19, 3) := by decide +kernel
theorem dX3_take_12 : decode cX3_take 12 = .ok (.aload_n 2, 1) := by decide +kernel
theorem dX3_take_13 : decode cX3_take 13 = .ok (.invokevirtual 27, 3) := by decide +kernel
theorem dX3_take_16 : decode cX3_take 16 = .ok (.aload_n 0, 1) := by decide +kernel
theorem dX3_take_17 : decode cX3_take 17 = .ok (.iconst 1, 1) := by decide +kernel
theorem dX3_take_18 : decode cX3_take 18 = .ok (.putfield 30, 3) := by decide +kernel
theorem dX3_take_21 : decode cX3_take 21 = .ok (.return_, 1) := by decide +kernel
theorem dX3_give_0 : decode cX3_give 0 = .ok (.aload_n 1, 1) := by decide +kernel
theorem dX3_give_1 : decode cX3_give 1 = .ok (.aload_n 0, 1) := by decide +kernel
theorem dX3_give_2 : decode cX3_give 2 = .ok (.getfield 10, 3) := by decide +kernel
theorem dX3_give_5 : decode cX3_give 5 = .ok (.invokevirtual 23, 3) := by decide +kernel
theorem dX3_give_8 : decode cX3_give 8 = .ok (.aload_n 2, 1) := by decide +kernel
theorem dX3_give_9 : decode cX3_give 9 = .ok (.aload_n 0, 1) := by decide +kernel
theorem dX3_give_10 : decode cX3_give 10 = .ok (.getfield 19, 3) := by decide +kernel
theorem dX3_give_13 : decode cX3_give 13 = .ok (.invokevirtual 27, 3) := by decide +kernel
theorem dX3_give_16 : decode cX3_give 16 = .ok (.return_, 1) := by decide +kernel
theorem dX4_init_0 : decode cX4_init 0 = .ok (.aload_n 0, 1) := by decide +kernel
theorem dX4_init_1 : decode cX4_init 1 = .ok (.invokespecial 3, 3) := by decide +kernel
theorem dX4_init_4 : decode cX4_init 4 = .ok (.aload_n 0, 1) := by decide +kernel
theorem dX4_init_5 : decode cX4_init 5 = .ok (.bipush 8, 2) := by decide +kernel
theorem dX4_init_7 : decode cX4_init 7 = .ok (.newarray .int, 2) := by decide +kernel
theorem dX4_init_9 : decode cX4_init 9 = .ok (.putfield 9, 3) := by decide +kernel
theorem dX4_init_12 : decode cX4_init 12 = .ok (.aload_n 0, 1) := by decide +kernel
theorem dX4_init_13 : decode cX4_init 13 = .ok (.bipush 8, 2) := by decide +kernel
theorem dX4_init_15 : decode cX4_init 15 = .ok (.newarray .int, 2) := by decide +kernel
theorem dX4_init_17 : decode cX4_init 17 = .ok (.putfield 15, 3) := by decide +kernel
theorem dX4_init_20 : decode cX4_init 20 = .ok (.aload_n 0, 1) := by decide +kernel
theorem dX4_init_21 : decode cX4_init 21 = .ok (.bipush 8, 2) := by decide +kernel
theorem dX4_init_23 : decode cX4_init 23 = .ok (.newarray .int, 2) := by decide +kernel
theorem dX4_init_25 : decode cX4_init 25 = .ok (.putfield 18, 3) := by decide +kernel
theorem dX4_init_28 : decode cX4_init 28 = .ok (.aload_n 0, 1) := by decide +kernel
theorem dX4_init_29 : decode cX4_init 29 = .ok (.iconst 4, 1) := by decide +kernel
theorem dX4_init_30 : decode cX4_init 30 = .ok (.newarray .int, 2) := by decide +kernel
theorem dX4_init_32 : decode cX4_init 32 = .ok (.putfield 21, 3) := by decide +kernel
theorem dX4_init_35 : decode cX4_init 35 = .ok (.aload_n 0, 1) := by decide +kernel
theorem dX4_init_36 : decode cX4_init 36 = .ok (.iconst 4, 1) := by decide +kernel
theorem dX4_init_37 : decode cX4_init 37 = .ok (.newarray .int, 2) := by decide +kernel
theorem dX4_init_39 : decode cX4_init 39 = .ok (.putfield 24, 3) := by decide +kernel
theorem dX4_init_42 : decode cX4_init 42 = .ok (.aload_n 0, 1) := by decide +kernel
theorem dX4_init_43 : decode cX4_init 43 = .ok (.bipush 6, 2) := by decide +kernel
theorem dX4_init_45 : decode cX4_init 45 = .ok (.newarray .int, 2) := by decide +kernel
theorem dX4_init_47 : decode cX4_init 47 = .ok (.putfield 27, 3) := by decide +kernel
theorem dX4_init_50 : decode cX4_init 50 = .ok (.aload_n 0, 1) := by decide +kernel
theorem dX4_init_51 : decode cX4_init 51 = .ok (.bipush 6, 2) := by decide +kernel
theorem dX4_init_53 : decode cX4_init 53 = .ok (.newarray .int, 2) := by decide +kernel
theorem dX4_init_55 : decode cX4_init 55 = .ok (.putfield 30, 3) := by decide +kernel
theorem dX4_init_58 : decode cX4_init 58 = .ok (.return_, 1) := by decide +kernel
theorem dX4_begin_0 : decode cX4_begin 0 = .ok (.aload_n 0, 1) := by decide +kernel
theorem dX4_begin_1 : decode cX4_begin 1 = .ok (.iconst 2, 1) := by decide +kernel
theorem dX4_begin_2 : decode cX4_begin 2 = .ok (.putfield 33, 3) := by decide +kernel
theorem dX4_begin_5 : decode cX4_begin 5 = .ok (.aload_n 0, 1) := by decide +kernel
theorem dX4_begin_6 : decode cX4_begin 6 = .ok (.iconst 0, 1) := by decide +kernel
theorem dX4_begin_7 : decode cX4_begin 7 = .ok (.putfield 37, 3) := by decide +kernel
theorem dX4_begin_10 : decode cX4_begin 10 = .ok (.aload_n 0, 1) := by decide +kernel
theorem dX4_begin_11 : decode cX4_begin 11 = .ok (.iconst 0, 1) := by decide +kernel
theorem dX4_begin_12 : decode cX4_begin 12 = .ok (.putfield 40, 3) := by decide +kernel
theorem dX4_begin_15 : decode cX4_begin 15 = .ok (.aload_n 0, 1) := by decide +kernel
theorem dX4_begin_16 : decode cX4_begin 16 = .ok (.iconst 0, 1) := by decide +kernel
theorem dX4_begin_17 : decode cX4_begin 17 = .ok (.putfield 43, 3) := by decide +kernel
theorem dX4_begin_20 : decode cX4_begin 20 = .ok (.aload_n 0, 1) := by decide +kernel
theorem dX4_begin_21 : decode cX4_begin 21 = .ok (.iconst 0, 1) := by decide +kernel
theorem dX4_begin_22 : decode cX4_begin 22 = .ok (.putfield 46, 3) := by decide +kernel
theorem dX4_begin_25 : decode cX4_begin 25 = .ok (.return_, 1) := by decide +kernel
theorem dX4_copyFrom_0 : decode cX4_copyFrom 0 = .ok (.aload_n 0, 1) := by decide +kernel
theorem dX4_copyFrom_1 : decode cX4_copyFrom 1 = .ok (.aload_n 1, 1) := by decide +kernel
theorem dX4_copyFrom_2 : decode cX4_copyFrom 2 = .ok (.getfield 33, 3) := by decide +kernel
theorem dX4_copyFrom_5 : decode cX4_copyFrom 5 = .ok (.putfield 33, 3) := by decide +kernel
theorem dX4_copyFrom_8 : decode cX4_copyFrom 8 = .ok (.aload_n 0, 1) := by decide +kernel
theorem dX4_copyFrom_9 : decode cX4_copyFrom 9 = .ok (.aload_n 1, 1) := by decide +kernel
theorem dX4_copyFrom_10 : decode cX4_copyFrom 10 = .ok (.getfield 37, 3) := by decide +kernel
theorem dX4_copyFrom_13 : decode cX4_copyFrom 13 = .ok (.putfield 37, 3) := by decide +kernel
theorem dX4_copyFrom_16 : decode cX4_copyFrom 16 = .ok (.aload_n 0, 1) := by decide +kernel
theorem dX4_copyFrom_17 : decode cX4_copyFrom 17 = .ok (.aload_n 1, 1) := by decide +kernel
theorem dX4_copyFrom_18 : decode cX4_copyFrom 18 = .ok (.getfield 40, 3) := by decide +kernel
theorem dX4_copyFrom_21 : decode cX4_copyFrom 21 = .ok (.putfield 40, 3) := by decide +kernel
theorem dX4_copyFrom_24 : decode cX4_copyFrom 24 = .ok (.aload_n 0, 1) := by decide +kernel
theorem dX4_copyFrom_25 : decode cX4_copyFrom 25 = .ok (.aload_n 1, 1) := by decide +kernel
theorem dX4_copyFrom_26 : decode cX4_copyFrom 26 = .ok (.getfield 43, 3) := by decide +kernel
theorem dX4_copyFrom_29 : decode cX4_copyFrom 29 = .ok (.putfield 43, 3) := by decide +kernel
theorem dX4_copyFrom_32 : decode cX4_copyFrom 32 = .ok (.aload_n 0, 1) := by decide +kernel
theorem dX4_copyFrom_33 : decode cX4_copyFrom 33 = .ok (.aload_n 1, 1) := by decide +kernel
theorem dX4_copyFrom_34 : decode cX4_copyFrom 34 = .ok (.getfield 46, 3) := by decide +kernel
theorem dX4_copyFrom_37 : decode cX4_copyFrom 37 = .ok (.putfield 46, 3) := by decide +kernel
theorem dX4_copyFrom_40 : decode cX4_copyFrom 40 = .ok (.aload_n 1, 1) := by decide +kernel
theorem dX4_copyFrom_41 : decode cX4_copyFrom 41 = .ok (.getfield 9, 3) := by decide +kernel
theorem dX4_copyFrom_44 : decode cX4_copyFrom 44 = .ok (.iconst 0, 1) := by decide +kernel
theorem dX4_copyFrom_45 : decode cX4_copyFrom 45 = .ok (.aload_n 0, 1) := by decide +kernel
theorem dX4_copyFrom_46 : decode cX4_copyFrom 46 = .ok (.getfield 9, 3) := by decide +kernel
theorem dX4_copyFrom_49 : decode cX4_copyFrom 49 = .ok (.iconst 0, 1) := by decide +kernel
theorem dX4_copyFrom_50 : decode cX4_copyFrom 50 = .ok (.bipush 8, 2) := by decide +kernel
theorem dX4_copyFrom_52 : decode cX4_copyFrom 52 = .ok (.invokestatic 49, 3) := by decide +kernel
theorem dX4_copyFrom_55 : decode cX4_copyFrom 55 = .ok (.aload_n 1, 1) := by decide +kernel
theorem dX4_copyFrom_56 : decode cX4_copyFrom 56 = .ok (.getfield 15, 3) := by decide +kernel
theorem dX4_copyFrom_59 : decode cX4_copyFrom 59 = .ok (.iconst 0, 1) := by decide +kernel
theorem dX4_copyFrom_60 : decode cX4_copyFrom 60 = .ok (.aload_n 0, 1) := by decide +kernel
theorem dX4_copyFrom_61 : decode cX4_copyFrom 61 = .ok (.getfield 15, 3) := by decide +kernel
theorem dX4_copyFrom_64 : decode cX4_copyFrom 64 = .ok (.iconst 0, 1) := by decide +kernel
theorem dX4_copyFrom_65 : decode cX4_copyFrom 65 = .ok (.bipush 8, 2) := by decide +kernel
theorem dX4_copyFrom_67 : decode cX4_copyFrom 67 = .ok (.invokestatic 49, 3) := by decide +kernel
theorem dX4_copyFrom_70 : decode cX4_copyFrom 70 = .ok (.aload_n 1, 1) := by decide +kernel
theorem dX4_copyFrom_71 : decode cX4_copyFrom 71 = .ok (.getfield 18, 3) := by decide +kernel
theorem dX4_copyFrom_74 : decode cX4_copyFrom 74 = .ok (.iconst 0, 1) := by decide +kernel
theorem dX4_copyFrom_75 : decode cX4_copyFrom 75 = .ok (.aload_n 0, 1) := by decide +kernel
theorem dX4_copyFrom_76 : decode cX4_copyFrom 76 = .ok (.getfield 18, 3) := by decide +kernel
theorem dX4_copyFrom_79 : decode cX4_copyFrom 79 = .ok (.iconst 0, 1) := by decide +kernel
theorem dX4_copyFrom_80 : decode cX4_copyFrom 80 = .ok (.bipush 8, 2) := by decide +kernel
theorem dX4_copyFrom_82 : decode cX4_copyFrom 82 = .ok (.invokestatic 49, 3) := by decide +kernel
theorem dX4_copyFrom_85 : decode cX4_copyFrom 85 = .ok (.aload_n 1, 1) := by decide +kernel
theorem dX4_copyFrom_86 : decode cX4_copyFrom 86 = .ok (.getfield 21, 3) := by decide +kernel
theorem dX4_copyFrom_89 : decode cX4_copyFrom 89 = .ok (.iconst 0, 1) := by decide +kernel
theorem dX4_copyFrom_90 : decode cX4_copyFrom 90 = .ok (.aload_n 0, 1) := by decide +kernel
theorem dX4_copyFrom_91 : decode cX4_copyFrom 91 = .ok (.getfield 21, 3) := by decide +kernel
theorem dX4_copyFrom_94 : decode cX4_copyFrom 94 = .ok (.iconst 0, 1) := by decide +kernel
theorem dX4_copyFrom_95 : decode cX4_copyFrom 95 = .ok (.iconst 4, 1) := by decide +kernel
theorem dX4_copyFrom_96 : decode cX4_copyFrom 96 = .ok (.invokestatic 49, 3) := by decide +kernel
theorem dX4_copyFrom_99 : decode cX4_copyFrom 99 = .ok (.aload_n 1, 1) := by decide +kernel
theorem dX4_copyFrom_100 : decode cX4_copyFrom 100 = .ok (.getfield 24, 3) := by decide +kernel
theorem dX4_copyFrom_103 : decode cX4_copyFrom 103 = .ok (.iconst 0, 1) := by decide +kernel
theorem dX4_copyFrom_104 : decode cX4_copyFrom 104 = .ok (.aload_n 0, 1) := by decide +kernel
theorem dX4_copyFrom_105 : decode cX4_copyFrom 105 = .ok (.getfield 24, 3) := by decide +kernel
theorem dX4_copyFrom_108 : decode cX4_copyFrom 108 = .ok (.iconst 0, 1) := by decide +kernel
theorem dX4_copyFrom_109 : decode cX4_copyFrom 109 = .ok (.iconst 4, 1) := by decide +kernel
theorem dX4_copyFrom_110 : decode cX4_copyFrom 110 = .ok (.invokestatic 49, 3) := by decide +kernel
theorem dX4_copyFrom_113 : decode cX4_copyFrom 113 = .ok (.aload_n 1, 1) := by decide +kernel
theorem dX4_copyFrom_114 : decode cX4_copyFrom 114 = .ok (.getfield 27, 3) := by decide +kernel
theorem dX4_copyFrom_117 : decode cX4_copyFrom 117 = .ok (.iconst 0, 1) := by decide +kernel
theorem dX4_copyFrom_118 : decode cX4_copyFrom 118 = .ok (.aload_n 0, 1) := by decide +kernel
theorem dX4_copyFrom_119 : decode cX4_copyFrom 119 = .ok (.getfield 27, 3) := by decide +kernel
theorem dX4_copyFrom_122 : decode cX4_copyFrom 122 = .ok (.iconst 0, 1) := by decide +kernel
theorem dX4_copyFrom_123 : decode cX4_copyFrom 123 = .ok (.bipush 6, 2) := by decide +kernel
theorem dX4_copyFrom_125 : decode cX4_copyFrom 125 = .ok (.invokestatic 49, 3) := by decide +kernel
theorem dX4_copyFrom_128 : decode cX4_copyFrom 128 = .ok (.aload_n 1, 1) := by decide +kernel
theorem dX4_copyFrom_129 : decode cX4_copyFrom 129 = .ok (.getfield 30, 3) := by decide +kernel
theorem dX4_copyFrom_132 : decode cX4_copyFrom 132 = .ok (.iconst 0, 1) := by decide +kernel
theorem dX4_copyFrom_133 : decode cX4_copyFrom 133 = .ok (.aload_n 0, 1) := by decide +kernel
theorem dX4_copyFrom_134 : decode cX4_copyFrom 134 = .ok (.getfield 30, 3) := by decide +kernel
theorem dX4_copyFrom_137 : decode cX4_copyFrom 137 = .ok (.iconst 0, 1) := by decide +kernel
theorem dX4_copyFrom_138 : decode cX4_copyFrom 138 = .ok (.bipush 6, 2) := by decide +kernel
theorem dX4_copyFrom_140 : decode cX4_copyFrom 140 = .ok (.invokestatic 49, 3) := by decide +kernel
theorem dX4_copyFrom_143 : decode cX4_copyFrom 143 = .ok (.return_, 1) := by decide +kernel
theorem dX4_isAt_0 : decode cX4_isAt 0 = .ok (.aload_n 0, 1) := by decide +kernel
theorem dX4_isAt_1 : decode cX4_isAt 1 = .ok (.getfield 9, 3) := by decide +kernel
theorem dX4_isAt_4 : decode cX4_isAt 4 = .ok (.iload_n 1, 1) := by decide +kernel
theorem dX4_isAt_5 : decode cX4_isAt 5 = .ok (.iaload, 1) := by decide +kernel
theorem dX4_isAt_6 : decode cX4_isAt 6 = .ok (.iload_n 2, 1) := by decide +kernel
theorem dX4_isAt_7 : decode cX4_isAt 7 = .ok (.if_icmp .eq 13, 3) := by decide +kernel
theorem dX4_isAt_10 : decode cX4_isAt 10 = .ok (.aload_n 0, 1) := by decide +kernel
theorem dX4_isAt_11 : decode cX4_isAt 11 = .ok (.getfield 15, 3) := by decide +kernel
theorem dX4_isAt_14 : decode cX4_isAt 14 = .ok (.iload_n 1, 1) := by decide +kernel
theorem dX4_isAt_15 : decode cX4_isAt 15 = .ok (.iaload, 1) := by decide +kernel
theorem dX4_isAt_16 : decode cX4_isAt 16 = .ok (.iload_n 2, 1) := by decide +kernel
theorem dX4_isAt_17 : decode cX4_isAt 17 = .ok (.if_icmp .ne 7, 3) := by decide +kernel
theorem dX4_isAt_20 : decode cX4_isAt 20 = .ok (.iconst 1, 1) := by decide +kernel
theorem dX4_isAt_21 : decode cX4_isAt 21 = .ok (.goto 4, 3) := by decide +kernel
theorem dX4_isAt_24 : decode cX4_isAt 24 = .ok (.iconst 0, 1) := by decide +kernel
theorem dX4_isAt_25 : decode cX4_isAt 25 = .ok (.ireturn, 1) := by decide +kernel
theorem dX4_across_0 : decode cX4_across 0 = .ok (.aload_n 0, 1) := by decide +kernel
theorem dX4_across_1 : decode cX4_across 1 = .ok (.getfield 9, 3) := by decide +kernel
theorem dX4_across_4 : decode cX4_across 4 = .ok (.iload_n 1, 1) := by decide +kernel
theorem dX4_across_5 : decode cX4_across 5 = .ok (.iaload, 1) := by decide +kernel
theorem dX4_across_6 : decode cX4_across 6 = .ok (.iload_n 2, 1) := by decide +kernel
theorem dX4_across_7 : decode cX4_across 7 = .ok (.if_icmp .ne 12, 3) := by decide +kernel
theorem dX4_across_10 : decode cX4_across 10 = .ok (.aload_n 0, 1) := by decide +kernel
theorem dX4_across_11 : decode cX4_across 11 = .ok (.getfield 15, 3) := by decide +kernel
theorem dX4_across_14 : decode cX4_across 14 = .ok (.iload_n 1, 1) := by decide +kernel
theorem dX4_across_15 : decode cX4_across 15 = .ok (.iaload, 1) := by decide +kernel
theorem dX4_across_16 : decode cX4_across 16 = .ok (.goto 9, 3) := by decide +kernel
theorem dX4_across_19 : decode cX4_across 19 = .ok (.aload_n 0, 1) := by decide +kernel
theorem dX4_across_20 : decode cX4_across 20 = .ok (.getfield 9, 3) := by decide +kernel
theorem dX4_across_23 : decode cX4_across 23 = .ok (.iload_n 1, 1) := by decide +kernel
theorem dX4_across_24 : decode cX4_across 24 = .ok (.iaload, 1) := by decide +kernel
theorem dX4_across_25 : decode cX4_across 25 = .ok (.ireturn, 1) := by decide +kernel
theorem dX4_endBits_0 : decode cX4_endBits 0 = .ok (.iconst 1, 1) := by decide +kernel
theorem dX4_endBits_1 : decode cX4_endBits 1 = .ok (.aload_n 0, 1) := by decide +kernel
theorem dX4_endBits_2 : decode cX4_endBits 2 = .ok (.getfield 9, 3) := by decide +kernel
theorem dX4_endBits_5 : decode cX4_endBits 5 = .ok (.iload_n 1, 1) := by decide +kernel
theorem dX4_endBits_6 : decode cX4_endBits 6 = .ok (.iaload, 1) := by decide +kernel
theorem dX4_endBits_7 : decode cX4_endBits 7 = .ok (.ishl, 1) := by decide +kernel
theorem dX4_endBits_8 : decode cX4_endBits 8 = .ok (.iconst 1, 1) := by decide +kernel
theorem dX4_endBits_9 : decode cX4_endBits 9 = .ok (.aload_n 0, 1) := by decide +kernel
theorem dX4_endBits_10 : decode cX4_endBits 10 = .ok (.getfield 15, 3) := by decide +kernel
theorem dX4_endBits_13 : decode cX4_endBits 13 = .ok (.iload_n 1, 1) := by decide +kernel
theorem dX4_endBits_14 : decode cX4_endBits 14 = .ok (.iaload, 1) := by decide +kernel
theorem dX4_endBits_15 : decode cX4_endBits 15 = .ok (.ishl, 1) := by decide +kernel
theorem dX4_endBits_16 : decode cX4_endBits 16 = .ok (.ior, 1) := by decide +kernel
theorem dX4_endBits_17 : decode cX4_endBits 17 = .ok (.ireturn, 1) := by decide +kernel
theorem dX5_init_0 : decode cX5_init 0 = .ok (.aload_n 0, 1) := by decide +kernel
theorem dX5_init_1 : decode cX5_init 1 = .ok (.invokespecial 3, 3) := by decide +kernel
theorem dX5_init_4 : decode cX5_init 4 = .ok (.aload_n 0, 1) := by decide +kernel
theorem dX5_init_5 : decode cX5_init 5 = .ok (.bipush 10, 2) := by decide +kernel
theorem dX5_init_7 : decode cX5_init 7 = .ok (.anewarray 9, 3) := by decide +kernel
theorem dX5_init_10 : decode cX5_init 10 = .ok (.putfield 11, 3) := by decide +kernel
theorem dX5_init_13 : decode cX5_init 13 = .ok (.iconst 0, 1) := by decide +kernel
theorem dX5_init_14 : decode cX5_init 14 = .ok (.istore_n 1, 1) := by decide +kernel
theorem dX5_init_15 : decode cX5_init 15 = .ok (.iload_n 1, 1) := by decide +kernel
theorem dX5_init_16 : decode cX5_init 16 = .ok (.bipush 10, 2) := by decide +kernel
theorem dX5_init_18 : decode cX5_init 18 = .ok (.if_icmp .ge 22, 3) := by decide +kernel
theorem dX5_init_21 : decode cX5_init 21 = .ok (.aload_n 0, 1) := by decide +kernel
theorem dX5_init_22 : decode cX5_init 22 = .ok (.getfield 11, 3) := by decide +kernel
theorem dX5_init_25 : decode cX5_init 25 = .ok (.iload_n 1, 1) := by decide +kernel
theorem dX5_init_26 : decode cX5_init 26 = .ok (.new 9, 3) := by decide +kernel
theorem dX5_init_29 : decode cX5_init 29 = .ok (.dup, 1) := by decide +kernel
theorem dX5_init_30 : decode cX5_init 30 = .ok (.invokespecial 17, 3) := by decide +kernel
theorem dX5_init_33 : decode cX5_init 33 = .ok (.aastore, 1) := by decide +kernel
theorem dX5_init_34 : decode cX5_init 34 = .ok (.iinc 1 1, 3) := by decide +kernel
theorem dX5_init_37 : decode cX5_init 37 = .ok (.goto (-22), 3) := by decide +kernel
theorem dX5_init_40 : decode cX5_init 40 = .ok (.return_, 1) := by decide +kernel
theorem dX5_note_0 : decode cX5_note 0 = .ok (.aload_n 0, 1) := by decide +kernel
theorem dX5_note_1 : decode cX5_note 1 = .ok (.aload_n 0, 1) := by decide +kernel
theorem dX5_note_2 : decode cX5_note 2 = .ok (.getfield 18, 3) := by decide +kernel
theorem dX5_note_5 : decode cX5_note 5 = .ok (.iconst 1, 1) := by decide +kernel
theorem dX5_note_6 : decode cX5_note 6 = .ok (.iadd, 1) := by decide +kernel
theorem dX5_note_7 : decode cX5_note 7 = .ok (.bipush 10, 2) := by decide +kernel
theorem dX5_note_9 : decode cX5_note 9 = .ok (.if_icmp .ge 12, 3) := by decide +kernel
theorem dX5_note_12 : decode cX5_note 12 = .ok (.aload_n 0, 1) := by decide +kernel
theorem dX5_note_13 : decode cX5_note 13 = .ok (.getfield 18, 3) := by decide +kernel
theorem dX5_note_16 : decode cX5_note 16 = .ok (.iconst 1, 1) := by decide +kernel
theorem dX5_note_17 : decode cX5_note 17 = .ok (.iadd, 1) := by decide +kernel
theorem dX5_note_18 : decode cX5_note 18 = .ok (.goto 4, 3) := by decide +kernel
theorem dX5_note_21 : decode cX5_note 21 = .ok (.iconst 0, 1) := by decide +kernel
theorem dX5_note_22 : decode cX5_note 22 = .ok (.putfield 18, 3) := by decide +kernel
theorem dX5_note_25 : decode cX5_note 25 = .ok (.aload_n 0, 1) := by decide +kernel
theorem dX5_note_26 : decode cX5_note 26 = .ok (.getfield 11, 3) := by decide +kernel
theorem dX5_note_29 : decode cX5_note 29 = .ok (.aload_n 0, 1) := by decide +kernel
theorem dX5_note_30 : decode cX5_note 30 = .ok (.getfield 18, 3) := by decide +kernel
theorem dX5_note_33 : decode cX5_note 33 = .ok (.aaload, 1) := by decide +kernel
theorem dX5_note_34 : decode cX5_note 34 = .ok (.aload_n 1, 1) := by decide +kernel
theorem dX5_note_35 : decode cX5_note 35 = .ok (.invokevirtual 22, 3) := by decide +kernel
theorem dX5_note_38 : decode cX5_note 38 = .ok (.aload_n 0, 1) := by decide +kernel
theorem dX5_note_39 : decode cX5_note 39 = .ok (.bipush 10, 2) := by decide +kernel
theorem dX5_note_41 : decode cX5_note 41 = .ok (.aload_n 0, 1) := by decide +kernel
theorem dX5_note_42 : decode cX5_note 42 = .ok (.getfield 26, 3) := by decide +kernel
theorem dX5_note_45 : decode cX5_note 45 = .ok (.iconst 1, 1) := by decide +kernel
theorem dX5_note_46 : decode cX5_note 46 = .ok (.iadd, 1) := by decide +kernel
theorem dX5_note_47 : decode cX5_note 47 = .ok (.invokestatic 29, 3) := by decide +kernel
theorem dX5_note_50 : decode cX5_note 50 = .ok (.putfield 26, 3) := by decide +kernel
theorem dX5_note_53 : decode cX5_note 53 = .ok (.return_, 1) := by decide +kernel
theorem dX5_restore_0 : decode cX5_restore 0 = .ok (.aload_n 1, 1) := by decide +kernel
theorem dX5_restore_1 : decode cX5_restore 1 = .ok (.aload_n 0, 1) := by decide +kernel
theorem dX5_restore_2 : decode cX5_restore 2 = .ok (.getfield 11, 3) := by decide +kernel
theorem dX5_restore_5 : decode cX5_restore 5 = .ok (.aload_n 0, 1) := by decide +kernel
theorem dX5_restore_6 : decode cX5_restore 6 = .ok (.getfield 18, 3) := by decide +kernel
theorem dX5_restore_9 : decode cX5_restore 9 = .ok (.aaload, 1) := by decide +kernel
theorem dX5_restore_10 : decode cX5_restore 10 = .ok (.invokevirtual 22, 3) := by decide +kernel
theorem dX5_restore_13 : decode cX5_restore 13 = .ok (.aload_n 0, 1) := by decide +kernel
theorem dX5_restore_14 : decode cX5_restore 14 = .ok (.aload_n 0, 1) := by decide +kernel
theorem dX5_restore_15 : decode cX5_restore 15 = .ok (.getfield 18, 3) := by decide +kernel
theorem dX5_restore_18 : decode cX5_restore 18 = .ok (.ifCond .le 12, 3) := by decide +kernel
theorem dX5_restore_21 : decode cX5_restore 21 = .ok (.aload_n 0, 1) := by decide +kernel
theorem dX5_restore_22 : decode cX5_restore 22 = .ok (.getfield 18, 3) := by decide +kernel
theorem dX5_restore_25 : decode cX5_restore 25 = .ok (.iconst 1, 1) := by decide +kernel
theorem dX5_restore_26 : decode cX5_restore 26 = .ok (.isub, 1) := by decide +kernel
theorem dX5_restore_27 : decode cX5_restore 27 = .ok (.goto 5, 3) := by decide +kernel
theorem dX5_restore_30 : decode cX5_restore 30 = .ok (.bipush 9, 2) := by decide +kernel
theorem dX5_restore_32 : decode cX5_restore 32 = .ok (.putfield 18, 3) := by decide +kernel
theorem dX5_restore_35 : decode cX5_restore 35 = .ok (.aload_n 0, 1) := by decide +kernel
theorem dX5_restore_36 : decode cX5_restore 36 = .ok (.iconst 0, 1) := by decide +kernel
theorem dX5_restore_37 : decode cX5_restore 37 = .ok (.aload_n 0, 1) := by decide +kernel
theorem dX5_restore_38 : decode cX5_restore 38 = .ok (.getfield 26, 3) := by decide +kernel
theorem dX5_restore_41 : decode cX5_restore 41 = .ok (.iconst 1, 1) := by decide +kernel
theorem dX5_restore_42 : decode cX5_restore 42 = .ok (.isub, 1) := by decide +kernel
theorem dX5_restore_43 : decode cX5_restore 43 = .ok (.invokestatic 35, 3) := by decide +kernel
theorem dX5_restore_46 : decode cX5_restore 46 = .ok (.putfield 26, 3) := by decide +kernel
theorem dX5_restore_49 : decode cX5_restore 49 = .ok (.return_, 1) := by decide +kernel
theorem dX5_copyFrom_0 : decode cX5_copyFrom 0 = .ok (.iconst 0, 1) := by decide +kernel
theorem dX5_copyFrom_1 : decode cX5_copyFrom 1 = .ok (.istore_n 2, 1) := by decide +kernel
theorem dX5_copyFrom_2 : decode cX5_copyFrom 2 = .ok (.iload_n 2, 1) := by decide +kernel
theorem dX5_copyFrom_3 : decode cX5_copyFrom 3 = .ok (.bipush 10, 2) := by decide +kernel
theorem dX5_copyFrom_5 : decode cX5_copyFrom 5 = .ok (.if_icmp .ge 24, 3) := by decide +kernel
theorem dX5_copyFrom_8 : decode cX5_copyFrom 8 = .ok (.aload_n 0, 1) := by decide +kernel
theorem dX5_copyFrom_9 : decode cX5_copyFrom 9 = .ok (.getfield 11, 3) := by decide +kernel
theorem dX5_copyFrom_12 : decode cX5_copyFrom 12 = .ok (.iload_n 2, 1) := by decide +kernel
theorem dX5_copyFrom_13 : decode cX5_copyFrom 13 = .ok (.aaload, 1) := by decide +kernel
theorem dX5_copyFrom_14 : decode cX5_copyFrom 14 = .ok (.aload_n 1, 1) := by decide +kernel
theorem dX5_copyFrom_15 : decode cX5_copyFrom 15 = .ok (.getfield 11, 3) := by decide +kernel
theorem dX5_copyFrom_18 : decode cX5_copyFrom 18 = .ok (.iload_n 2, 1) := by decide +kernel
theorem dX5_copyFrom_19 : decode cX5_copyFrom 19 = .ok (.aaload, 1) := by decide +kernel
theorem dX5_copyFrom_20 : decode cX5_copyFrom 20 = .ok (.invokevirtual 22, 3) := by decide +kernel
theorem dX5_copyFrom_23 : decode cX5_copyFrom 23 = .ok (.iinc 2 1, 3) := by decide +kernel
theorem dX5_copyFrom_26 : decode cX5_copyFrom 26 = .ok (.goto (-24), 3) := by decide +kernel
theorem dX5_copyFrom_29 : decode cX5_copyFrom 29 = .ok (.aload_n 0, 1) := by decide +kernel
theorem dX5_copyFrom_30 : decode cX5_copyFrom 30 = .ok (.aload_n 1, 1) := by decide +kernel
theorem dX5_copyFrom_31 : decode cX5_copyFrom 31 = .ok (.getfield 18, 3) := by decide +kernel
theorem dX5_copyFrom_34 : decode cX5_copyFrom 34 = .ok (.putfield 18, 3) := by decide +kernel
theorem dX5_copyFrom_37 : decode cX5_copyFrom 37 = .ok (.aload_n 0, 1) := by decide +kernel
theorem dX5_copyFrom_38 : decode cX5_copyFrom 38 = .ok (.aload_n 1, 1) := by decide +kernel
theorem dX5_copyFrom_39 : decode cX5_copyFrom 39 = .ok (.getfield 26, 3) := by decide +kernel
theorem dX5_copyFrom_42 : decode cX5_copyFrom 42 = .ok (.putfield 26, 3) := by decide +kernel
theorem dX5_copyFrom_45 : decode cX5_copyFrom 45 = .ok (.return_, 1) := by decide +kernel
theorem dX6_init_0 : decode cX6_init 0 = .ok (.aload_n 0, 1) := by decide +kernel
theorem dX6_init_1 : decode cX6_init 1 = .ok (.invokespecial 3, 3) := by decide +kernel
theorem dX6_init_4 : decode cX6_init 4 = .ok (.aload_n 0, 1) := by decide +kernel
theorem dX6_init_5 : decode cX6_init 5 = .ok (.bipush 8, 2) := by decide +kernel
theorem dX6_init_7 : decode cX6_init 7 = .ok (.newarray .int, 2) := by decide +kernel
theorem dX6_init_9 : decode cX6_init 9 = .ok (.putfield 9, 3) := by decide +kernel
theorem dX6_init_12 : decode cX6_init 12 = .ok (.aload_n 0, 1) := by decide +kernel
theorem dX6_init_13 : decode cX6_init 13 = .ok (.bipush 8, 2) := by decide +kernel
theorem dX6_init_15 : decode cX6_init 15 = .ok (.newarray .int, 2) := by decide +kernel
theorem dX6_init_17 : decode cX6_init 17 = .ok (.putfield 15, 3) := by decide +kernel
theorem dX6_init_20 : decode cX6_init 20 = .ok (.aload_n 0, 1) := by decide +kernel
theorem dX6_init_21 : decode cX6_init 21 = .ok (.aload_n 1, 1) := by decide +kernel
theorem dX6_init_22 : decode cX6_init 22 = .ok (.putfield 18, 3) := by decide +kernel
theorem dX6_init_25 : decode cX6_init 25 = .ok (.aload_n 0, 1) := by decide +kernel
theorem dX6_init_26 : decode cX6_init 26 = .ok (.aload_n 1, 1) := by decide +kernel
theorem dX6_init_27 : decode cX6_init 27 = .ok (.getfield 22, 3) := by decide +kernel
theorem dX6_init_30 : decode cX6_init 30 = .ok (.putfield 28, 3) := by decide +kernel
theorem dX6_init_33 : decode cX6_init 33 = .ok (.return_, 1) := by decide +kernel
theorem dX6_fewestHeard_0 : decode cX6_fewestHeard 0 = .ok (.aload_n 0, 1) := by decide +kernel
theorem dX6_fewestHeard_1 : decode cX6_fewestHeard 1 = .ok (.iload_n 1, 1) := by decide +kernel
theorem dX6_fewestHeard_2 : decode cX6_fewestHeard 2 = .ok (.iload_n 3, 1) := by decide +kernel
theorem dX6_fewestHeard_3 : decode cX6_fewestHeard 3 = .ok (.invokevirtual 29, 3) := by decide +kernel
theorem dX6_fewestHeard_6 : decode cX6_fewestHeard 6 = .ok (.aload_n 0, 1) := by decide +kernel
theorem dX6_fewestHeard_7 : decode cX6_fewestHeard 7 = .ok (.getfield 9, 3) := by decide +kernel
theorem dX6_fewestHeard_10 : decode cX6_fewestHeard 10 = .ok (.iload_n 2, 1) := by decide +kernel
theorem dX6_fewestHeard_11 : decode cX6_fewestHeard 11 = .ok (.iaload, 1) := by decide +kernel
theorem dX6_fewestHeard_12 : decode cX6_fewestHeard 12 = .ok (.ldc 33, 2) := by decide +kernel
theorem dX6_fewestHeard_14 : decode cX6_fewestHeard 14 = .ok (.if_icmp .lt 8, 3) := by decide +kernel
theorem dX6_fewestHeard_17 : decode cX6_fewestHeard 17 = .ok (.bipush (-9), 2) := by decide +kernel
theorem dX6_fewestHeard_19 : decode cX6_fewestHeard 19 = .ok (.goto 12, 3) := by decide +kernel
theorem dX6_fewestHeard_22 : decode cX6_fewestHeard 22 = .ok (.aload_n 0, 1) := by decide +kernel
theorem dX6_fewestHeard_23 : decode cX6_fewestHeard 23 = .ok (.getfield 9, 3) := by decide +kernel
theorem dX6_fewestHeard_26 : decode cX6_fewestHeard 26 = .ok (.iload_n 2, 1) := by decide +kernel
theorem dX6_fewestHeard_27 : decode cX6_fewestHeard 27 = .ok (.iaload, 1) := by decide +kernel
theorem dX6_fewestHeard_28 : decode cX6_fewestHeard 28 = .ok (.bipush 100, 2) := by decide +kernel
theorem dX6_fewestHeard_30 : decode cX6_fewestHeard 30 = .ok (.idiv, 1) := by decide +kernel
theorem dX6_fewestHeard_31 : decode cX6_fewestHeard 31 = .ok (.ireturn, 1) := by decide +kernel
theorem dX6_fewestCrossings_0 : decode cX6_fewestCrossings 0 = .ok (.aload_n 0, 1) := by decide +kernel
theorem dX6_fewestCrossings_1 : decode cX6_fewestCrossings 1 = .ok (.iload_n 1, 1) := by decide +kernel
theorem dX6_fewestCrossings_2 : decode cX6_fewestCrossings 2 = .ok (.iload_n 3, 1) := by decide +kernel
theorem dX6_fewestCrossings_3 : decode cX6_fewestCrossings 3 = .ok (.invokevirtual 29, 3) := by decide +kernel
theorem dX6_fewestCrossings_6 : decode cX6_fewestCrossings 6 = .ok (.aload_n 0, 1) := by decide +kernel
theorem dX6_fewestCrossings_7 : decode cX6_fewestCrossings 7 = .ok (.getfield 9, 3) := by decide +kernel
theorem dX6_fewestCrossings_10 : decode cX6_fewestCrossings 10 = .ok (.iload_n 2, 1) := by decide +kernel
theorem dX6_fewestCrossings_11 : decode cX6_fewestCrossings 11 = .ok (.iaload, 1) := by decide +kernel
theorem dX6_fewestCrossings_12 : decode cX6_fewestCrossings 12 = .ok (.ldc 33, 2) := by decide +kernel
theorem dX6_fewestCrossings_14 : decode cX6_fewestCrossings 14 = .ok (.if_icmp .lt 8, 3) := by decide +kernel
theorem dX6_fewestCrossings_17 : decode cX6_fewestCrossings 17 = .ok (.bipush (-9), 2) := by decide +kernel
theorem dX6_fewestCrossings_19 : decode cX6_fewestCrossings 19 = .ok (.goto 12, 3) := by decide +kernel
theorem dX6_fewestCrossings_22 : decode cX6_fewestCrossings 22 = .ok (.aload_n 0, 1) := by decide +kernel
theorem dX6_fewestCrossings_23 : decode cX6_fewestCrossings 23 = .ok (.getfield 9, 3) := by decide +kernel
theorem dX6_fewestCrossings_26 : decode cX6_fewestCrossings 26 = .ok (.iload_n 2, 1) := by decide +kernel
theorem dX6_fewestCrossings_27 : decode cX6_fewestCrossings 27 = .ok (.iaload, 1) := by decide +kernel
theorem dX6_fewestCrossings_28 : decode cX6_fewestCrossings 28 = .ok (.bipush 100, 2) := by decide +kernel
theorem dX6_fewestCrossings_30 : decode cX6_fewestCrossings 30 = .ok (.irem, 1) := by decide +kernel
theorem dX6_fewestCrossings_31 : decode cX6_fewestCrossings 31 = .ok (.ireturn, 1) := by decide +kernel
theorem dX6_firstFence_0 : decode cX6_firstFence 0 = .ok (.aload_n 0, 1) := by decide +kernel
theorem dX6_firstFence_1 : decode cX6_firstFence 1 = .ok (.iload_n 1, 1) := by decide +kernel
theorem dX6_firstFence_2 : decode cX6_firstFence 2 = .ok (.iload_n 3, 1) := by decide +kernel
theorem dX6_firstFence_3 : decode cX6_firstFence 3 = .ok (.invokevirtual 29, 3) := by decide +kernel
theorem dX6_firstFence_6 : decode cX6_firstFence 6 = .ok (.iload_n 2, 1) := by decide +kernel
theorem dX6_firstFence_7 : decode cX6_firstFence 7 = .ok (.iload_n 3, 1) := by decide +kernel
theorem dX6_firstFence_8 : decode cX6_firstFence 8 = .ok (.if_icmp .eq 14, 3) := by decide +kernel
theorem dX6_firstFence_11 : decode cX6_firstFence 11 = .ok (.aload_n 0, 1) := by decide +kernel
theorem dX6_firstFence_12 : decode cX6_firstFence 12 = .ok (.getfield 9, 3) := by decide +kernel
theorem dX6_firstFence_15 : decode cX6_firstFence 15 = .ok (.iload_n 2, 1) := by decide +kernel
theorem dX6_firstFence_16 : decode cX6_firstFence 16 = .ok (.iaload, 1) := by decide +kernel
theorem dX6_firstFence_17 : decode cX6_firstFence 17 = .ok (.ldc 33, 2) := by decide +kernel
theorem dX6_firstFence_19 : decode cX6_firstFence 19 = .ok (.if_icmp .lt 6, 3) := by decide +kernel
theorem dX6_firstFence_22 : decode cX6_firstFence 22 = .ok (.bipush (-9), 2) := by decide +kernel
theorem dX6_firstFence_24 : decode cX6_firstFence 24 = .ok (.ireturn, 1) := by decide +kernel
theorem dX6_firstFence_25 : decode cX6_firstFence 25 = .ok (.iconst 0, 1) := by decide +kernel
theorem dX6_firstFence_26 : decode cX6_firstFence 26 = .ok (.istore 4, 2) := by decide +kernel
theorem dX6_firstFence_28 : decode cX6_firstFence 28 = .ok (.iload 4, 2) := by decide +kernel
theorem dX6_firstFence_30 : decode cX6_firstFence 30 = .ok (.aload_n 0, 1) := by decide +kernel
theorem dX6_firstFence_31 : decode cX6_firstFence 31 = .ok (.getfield 28, 3) := by decide +kernel
theorem dX6_firstFence_34 : decode cX6_firstFence 34 = .ok (.getfield 34, 3) := by decide +kernel
theorem dX6_firstFence_37 : decode cX6_firstFence 37 = .ok (.if_icmp .ge 57, 3) := by decide +kernel
theorem dX6_firstFence_40 : decode cX6_firstFence 40 = .ok (.aload_n 0, 1) := by decide +kernel
theorem dX6_firstFence_41 : decode cX6_firstFence 41 = .ok (.getfield 28, 3) := by decide +kernel
theorem dX6_firstFence_44 : decode cX6_firstFence 44 = .ok (.iload 4, 2) := by decide +kernel
theorem dX6_firstFence_46 : decode cX6_firstFence 46 = .ok (.iload_n 2, 1) := by decide +kernel
theorem dX6_firstFence_47 : decode cX6_firstFence 47 = .ok (.invokevirtual 40, 3) := by decide +kernel
theorem dX6_firstFence_50 : decode cX6_firstFence 50 = .ok (.ifCond .eq 38, 3) := by decide +kernel
theorem dX6_firstFence_53 : decode cX6_firstFence 53 = .ok (.aload_n 0, 1) := by decide +kernel
theorem dX6_firstFence_54 : decode cX6_firstFence 54 = .ok (.getfield 9, 3) := by decide +kernel
theorem dX6_firstFence_57 : decode cX6_firstFence 57 = .ok (.iload_n 2, 1) := by decide +kernel
theorem dX6_firstFence_58 : decode cX6_firstFence 58 = .ok (.iaload, 1) := by decide +kernel
theorem dX6_firstFence_59 : decode cX6_firstFence 59 = .ok (.aload_n 0, 1) := by decide +kernel
theorem dX6_firstFence_60 : decode cX6_firstFence 60 = .ok (.getfield 9, 3) := by decide +kernel
theorem dX6_firstFence_63 : decode cX6_firstFence 63 = .ok (.aload_n 0, 1) := by decide +kernel
theorem dX6_firstFence_64 : decode cX6_firstFence 64 = .ok (.getfield 28, 3) := by decide +kernel
theorem dX6_firstFence_67 : decode cX6_firstFence 67 = .ok (.iload 4, 2) := by decide +kernel
theorem dX6_firstFence_69 : decode cX6_firstFence 69 = .ok (.iload_n 2, 1) := by decide +kernel
theorem dX6_firstFence_70 : decode cX6_firstFence 70 = .ok (.invokevirtual 44, 3) := by decide +kernel
theorem dX6_firstFence_73 : decode cX6_firstFence 73 = .ok (.iaload, 1) := by decide +kernel
theorem dX6_firstFence_74 : decode cX6_firstFence 74 = .ok (.aload_n 0, 1) := by decide +kernel
theorem dX6_firstFence_75 : decode cX6_firstFence 75 = .ok (.iload_n 1, 1) := by decide +kernel
theorem dX6_firstFence_76 : decode cX6_firstFence 76 = .ok (.iload 4, 2) := by decide +kernel
theorem dX6_firstFence_78 : decode cX6_firstFence 78 = .ok (.invokevirtual 48, 3) := by decide +kernel
theorem dX6_firstFence_81 : decode cX6_firstFence 81 = .ok (.iadd, 1) := by decide +kernel
theorem dX6_firstFence_82 : decode cX6_firstFence 82 = .ok (.if_icmp .ne 6, 3) := by decide +kernel
theorem dX6_firstFence_85 : decode cX6_firstFence 85 = .ok (.iload 4, 2) := by decide +kernel
theorem dX6_firstFence_87 : decode cX6_firstFence 87 = .ok (.ireturn, 1) := by decide +kernel
theorem dX6_firstFence_88 : decode cX6_firstFence 88 = .ok (.iinc 4 1, 3) := by decide +kernel
theorem dX6_firstFence_91 : decode cX6_firstFence 91 = .ok (.goto (-63), 3) := by decide +kernel
theorem dX6_firstFence_94 : decode cX6_firstFence 94 = .ok (.bipush (-9), 2) := by decide +kernel
theorem dX6_firstFence_96 : decode cX6_firstFence 96 = .ok (.ireturn, 1) := by decide +kernel
theorem dX6_costOf_0 : decode cX6_costOf 0 = .ok (.aload_n 0, 1) := by decide +kernel
theorem dX6_costOf_1 : decode cX6_costOf 1 = .ok (.getfield 18, 3) := by decide +kernel
theorem dX6_costOf_4 : decode cX6_costOf 4 = .ok (.iload_n 1, 1) := by decide +kernel
theorem dX6_costOf_5 : decode cX6_costOf 5 = .ok (.iload_n 2, 1) := by decide +kernel
theorem dX6_costOf_6 : decode cX6_costOf 6 = .ok (.invokevirtual 51, 3) := by decide +kernel
theorem dX6_costOf_9 : decode cX6_costOf 9 = .ok (.ifCond .le 8, 3) := by decide +kernel
theorem dX6_costOf_12 : decode cX6_costOf 12 = .ok (.bipush 101, 2) := by decide +kernel
theorem dX6_costOf_14 : decode cX6_costOf 14 = .ok (.goto 4, 3) := by decide +kernel
theorem dX6_costOf_17 : decode cX6_costOf 17 = .ok (.iconst 1, 1) := by decide +kernel
theorem dX6_costOf_18 : decode cX6_costOf 18 = .ok (.ireturn, 1) := by decide +kernel
theorem dX6_measure_0 : decode cX6_measure 0 = .ok (.iconst 0, 1) := by decide +kernel
theorem dX6_measure_1 : decode cX6_measure 1 = .ok (.istore_n 3, 1) := by decide +kernel
theorem dX6_measure_2 : decode cX6_measure 2 = .ok (.iload_n 3, 1) := by decide +kernel
theorem dX6_measure_3 : decode cX6_measure 3 = .ok (.aload_n 0, 1) := by decide +kernel
theorem dX6_measure_4 : decode cX6_measure 4 = .ok (.getfield 28, 3) := by decide +kernel
theorem dX6_measure_7 : decode cX6_measure 7 = .ok (.getfield 54, 3) := by decide +kernel
theorem dX6_measure_10 : decode cX6_measure 10 = .ok (.if_icmp .ge 26, 3) := by decide +kernel
theorem dX6_measure_13 : decode cX6_measure 13 = .ok (.aload_n 0, 1) := by decide +kernel
theorem dX6_measure_14 : decode cX6_measure 14 = .ok (.getfield 9, 3) := by decide +kernel
theorem dX6_measure_17 : decode cX6_measure 17 = .ok (.iload_n 3, 1) := by decide +kernel
theorem dX6_measure_18 : decode cX6_measure 18 = .ok (.iload_n 3, 1) := by decide +kernel
theorem dX6_measure_19 : decode cX6_measure 19 = .ok (.iload_n 2, 1) := by decide +kernel
theorem dX6_measure_20 : decode cX6_measure 20 = .ok (.if_icmp .ne 7, 3) := by decide +kernel
theorem dX6_measure_23 : decode cX6_measure 23 = .ok (.iconst 0, 1) := by decide +kernel
theorem dX6_measure_24 : decode cX6_measure 24 = .ok (.goto 5, 3) := by decide +kernel
theorem dX6_measure_27 : decode cX6_measure 27 = .ok (.ldc 33, 2) := by decide +kernel
theorem dX6_measure_29 : decode cX6_measure 29 = .ok (.iastore, 1) := by decide +kernel
theorem dX6_measure_30 : decode cX6_measure 30 = .ok (.iinc 3 1, 3) := by decide +kernel
theorem dX6_measure_33 : decode cX6_measure 33 = .ok (.goto (-31), 3) := by decide +kernel
theorem dX6_measure_36 : decode cX6_measure 36 = .ok (.iconst 1, 1) := by decide +kernel
theorem dX6_measure_37 : decode cX6_measure 37 = .ok (.istore_n 3, 1) := by decide +kernel
theorem dX6_measure_38 : decode cX6_measure 38 = .ok (.iload_n 3, 1) := by decide +kernel
theorem dX6_measure_39 : decode cX6_measure 39 = .ok (.aload_n 0, 1) := by decide +kernel
theorem dX6_measure_40 : decode cX6_measure 40 = .ok (.getfield 28, 3) := by decide +kernel
theorem dX6_measure_43 : decode cX6_measure 43 = .ok (.getfield 54, 3) := by decide +kernel
theorem dX6_measure_46 : decode cX6_measure 46 = .ok (.if_icmp .ge 117, 3) := by decide +kernel
theorem dX6_measure_49 : decode cX6_measure 49 = .ok (.iconst 0, 1) := by decide +kernel
theorem dX6_measure_50 : decode cX6_measure 50 = .ok (.istore 4, 2) := by decide +kernel
theorem dX6_measure_52 : decode cX6_measure 52 = .ok (.iload 4, 2) := by decide +kernel
theorem dX6_measure_54 : decode cX6_measure 54 = .ok (.aload_n 0, 1) := by decide +kernel
theorem dX6_measure_55 : decode cX6_measure 55 = .ok (.getfield 28, 3) := by decide +kernel
theorem dX6_measure_58 : decode cX6_measure 58 = .ok (.getfield 34, 3) := by decide +kernel
theorem dX6_measure_61 : decode cX6_measure 61 = .ok (.if_icmp .ge 96, 3) := by decide +kernel
theorem dX6_measure_64 : decode cX6_measure 64 = .ok (.aload_n 0, 1) := by decide +kernel
theorem dX6_measure_65 : decode cX6_measure 65 = .ok (.getfield 28, 3) := by decide +kernel
theorem dX6_measure_68 : decode cX6_measure 68 = .ok (.getfield 57, 3) := by decide +kernel
theorem dX6_measure_71 : decode cX6_measure 71 = .ok (.iload 4, 2) := by decide +kernel
theorem dX6_measure_73 : decode cX6_measure 73 = .ok (.iaload, 1) := by decide +kernel
theorem dX6_measure_74 : decode cX6_measure 74 = .ok (.istore 5, 2) := by decide +kernel
theorem dX6_measure_76 : decode cX6_measure 76 = .ok (.aload_n 0, 1) := by decide +kernel
theorem dX6_measure_77 : decode cX6_measure 77 = .ok (.getfield 28, 3) := by decide +kernel
theorem dX6_measure_80 : decode cX6_measure 80 = .ok (.getfield 60, 3) := by decide +kernel
theorem dX6_measure_83 : decode cX6_measure 83 = .ok (.iload 4, 2) := by decide +kernel
theorem dX6_measure_85 : decode cX6_measure 85 = .ok (.iaload, 1) := by decide +kernel
theorem dX6_measure_86 : decode cX6_measure 86 = .ok (.istore 6, 2) := by decide +kernel
theorem dX6_measure_88 : decode cX6_measure 88 = .ok (.aload_n 0, 1) := by decide +kernel
theorem dX6_measure_89 : decode cX6_measure 89 = .ok (.iload_n 1, 1) := by decide +kernel
theorem dX6_measure_90 : decode cX6_measure 90 = .ok (.iload 4, 2) := by decide +kernel
theorem dX6_measure_92 : decode cX6_measure 92 = .ok (.invokevirtual 48, 3) := by decide +kernel
theorem dX6_measure_95 : decode cX6_measure 95 = .ok (.istore 7, 2) := by decide +kernel
theorem dX6_measure_97 : decode cX6_measure 97 = .ok (.aload_n 0, 1) := by decide +kernel
theorem dX6_measure_98 : decode cX6_measure 98 = .ok (.getfield 9, 3) := by decide +kernel
theorem dX6_measure_101 : decode cX6_measure 101 = .ok (.iload 5, 2) := by decide +kernel
theorem dX6_measure_103 : decode cX6_measure 103 = .ok (.aload_n 0, 1) := by decide +kernel
theorem dX6_measure_104 : decode cX6_measure 104 = .ok (.getfield 9, 3) := by decide +kernel
theorem dX6_measure_107 : decode cX6_measure 107 = .ok (.iload 5, 2) := by decide +kernel
theorem dX6_measure_109 : decode cX6_measure 109 = .ok (.iaload, 1) := by decide +kernel
theorem dX6_measure_110 : decode cX6_measure 110 = .ok (.aload_n 0, 1) := by decide +kernel
theorem dX6_measure_111 : decode cX6_measure 111 = .ok (.getfield 9, 3) := by decide +kernel
theorem dX6_measure_114 : decode cX6_measure 114 = .ok (.iload 6, 2) := by decide +kernel
theorem dX6_measure_116 : decode cX6_measure 116 = .ok (.iaload, 1) := by decide +kernel
theorem dX6_measure_117 : decode cX6_measure 117 = .ok (.iload 7, 2) := by decide +kernel
theorem dX6_measure_119 : decode cX6_measure 119 = .ok (.iadd, 1) := by decide +kernel
theorem dX6_measure_120 : decode cX6_measure 120 = .ok (.invokestatic 63, 3) := by decide +kernel
theorem dX6_measure_123 : decode cX6_measure 123 = .ok (.iastore, 1) := by decide +kernel
theorem dX6_measure_124 : decode cX6_measure 124 = .ok (.aload_n 0, 1) := by decide +kernel
theorem dX6_measure_125 : decode cX6_measure 125 = .ok (.getfield 9, 3) := by decide +kernel
theorem dX6_measure_128 : decode cX6_measure 128 = .ok (.iload 6, 2) := by decide +kernel
theorem dX6_measure_130 : decode cX6_measure 130 = .ok (.aload_n 0, 1) := by decide +kernel
theorem dX6_measure_131 : decode cX6_measure 131 = .ok (.getfield 9, 3) := by decide +kernel
theorem dX6_measure_134 : decode cX6_measure 134 = .ok (.iload 6, 2) := by decide +kernel
theorem dX6_measure_136 : decode cX6_measure 136 = .ok (.iaload, 1) := by decide +kernel
theorem dX6_measure_137 : decode cX6_measure 137 = .ok (.aload_n 0, 1) := by decide +kernel
theorem dX6_measure_138 : decode cX6_measure 138 = .ok (.getfield 9, 3) := by decide +kernel
theorem dX6_measure_141 : decode cX6_measure 141 = .ok (.iload 5, 2) := by decide +kernel
theorem dX6_measure_143 : decode cX6_measure 143 = .ok (.iaload, 1) := by decide +kernel
theorem dX6_measure_144 : decode cX6_measure 144 = .ok (.iload 7, 2) := by decide +kernel
theorem dX6_measure_146 : decode cX6_measure 146 = .ok (.iadd, 1) := by decide +kernel
theorem dX6_measure_147 : decode cX6_measure 147 = .ok (.invokestatic 63, 3) := by decide +kernel
theorem dX6_measure_150 : decode cX6_measure 150 = .ok (.iastore, 1) := by decide +kernel
theorem dX6_measure_151 : decode cX6_measure 151 = .ok (.iinc 4 1, 3) := by decide +kernel
theorem dX6_measure_154 : decode cX6_measure 154 = .ok (.goto (-102), 3) := by decide +kernel
theorem dX6_measure_157 : decode cX6_measure 157 = .ok (.iinc 3 1, 3) := by decide +kernel
theorem dX6_measure_160 : decode cX6_measure 160 = .ok (.goto (-122), 3) := by decide +kernel
theorem dX6_measure_163 : decode cX6_measure 163 = .ok (.return_, 1) := by decide +kernel
theorem dX6_frostParts_0 : decode cX6_frostParts 0 = .ok (.aload_n 0, 1) := by decide +kernel
theorem dX6_frostParts_1 : decode cX6_frostParts 1 = .ok (.iconst 0, 1) := by decide +kernel
theorem dX6_frostParts_2 : decode cX6_frostParts 2 = .ok (.putfield 68, 3) := by decide +kernel
theorem dX6_frostParts_5 : decode cX6_frostParts 5 = .ok (.aload_n 0, 1) := by decide +kernel
theorem dX6_frostParts_6 : decode cX6_frostParts 6 = .ok (.iconst 0, 1) := by decide +kernel
theorem dX6_frostParts_7 : decode cX6_frostParts 7 = .ok (.putfield 71, 3) := by decide +kernel
theorem dX6_frostParts_10 : decode cX6_frostParts 10 = .ok (.iconst 0, 1) := by decide +kernel
theorem dX6_frostParts_11 : decode cX6_frostParts 11 = .ok (.istore_n 3, 1) := by decide +kernel
theorem dX6_frostParts_12 : decode cX6_frostParts 12 = .ok (.iload_n 3, 1) := by decide +kernel
theorem dX6_frostParts_13 : decode cX6_frostParts 13 = .ok (.aload_n 0, 1) := by decide +kernel
theorem dX6_frostParts_14 : decode cX6_frostParts 14 = .ok (.getfield 28, 3) := by decide +kernel
theorem dX6_frostParts_17 : decode cX6_frostParts 17 = .ok (.getfield 34, 3) := by decide +kernel
theorem dX6_frostParts_20 : decode cX6_frostParts 20 = .ok (.if_icmp .ge 72, 3) := by decide +kernel
theorem dX6_frostParts_23 : decode cX6_frostParts 23 = .ok (.aload_n 0, 1) := by decide +kernel
theorem dX6_frostParts_24 : decode cX6_frostParts 24 = .ok (.getfield 18, 3) := by decide +kernel
theorem dX6_frostParts_27 : decode cX6_frostParts 27 = .ok (.iload_n 1, 1) := by decide +kernel
theorem dX6_frostParts_28 : decode cX6_frostParts 28 = .ok (.iload_n 3, 1) := by decide +kernel
theorem dX6_frostParts_29 : decode cX6_frostParts 29 = .ok (.invokevirtual 51, 3) := by decide +kernel
theorem dX6_frostParts_32 : decode cX6_frostParts 32 = .ok (.ifCond .ne 18, 3) := by decide +kernel
theorem dX6_frostParts_35 : decode cX6_frostParts 35 = .ok (.aload_n 0, 1) := by decide +kernel
theorem dX6_frostParts_36 : decode cX6_frostParts 36 = .ok (.dup, 1) := by decide +kernel
theorem dX6_frostParts_37 : decode cX6_frostParts 37 = .ok (.getfield 68, 3) := by decide +kernel
theorem dX6_frostParts_40 : decode cX6_frostParts 40 = .ok (.iconst 1, 1) := by decide +kernel
theorem dX6_frostParts_41 : decode cX6_frostParts 41 = .ok (.iload_n 3, 1) := by decide +kernel
theorem dX6_frostParts_42 : decode cX6_frostParts 42 = .ok (.ishl, 1) := by decide +kernel
theorem dX6_frostParts_43 : decode cX6_frostParts 43 = .ok (.ior, 1) := by decide +kernel
theorem dX6_frostParts_44 : decode cX6_frostParts 44 = .ok (.putfield 68, 3) := by decide +kernel
theorem dX6_frostParts_47 : decode cX6_frostParts 47 = .ok (.goto 39, 3) := by decide +kernel
theorem dX6_frostParts_50 : decode cX6_frostParts 50 = .ok (.aload_n 0, 1) := by decide +kernel
theorem dX6_frostParts_51 : decode cX6_frostParts 51 = .ok (.getfield 18, 3) := by decide +kernel
theorem dX6_frostParts_54 : decode cX6_frostParts 54 = .ok (.getfield 74, 3) := by decide +kernel
theorem dX6_frostParts_57 : decode cX6_frostParts 57 = .ok (.getfield 78, 3) := by decide +kernel
theorem dX6_frostParts_60 : decode cX6_frostParts 60 = .ok (.iload_n 3, 1) := by decide +kernel
theorem dX6_frostParts_61 : decode cX6_frostParts 61 = .ok (.iaload, 1) := by decide +kernel
theorem dX6_frostParts_62 : decode cX6_frostParts 62 = .ok (.iload_n 2, 1) := by decide +kernel
theorem dX6_frostParts_63 : decode cX6_frostParts 63 = .ok (.if_icmp .lt 23, 3) := by decide +kernel
theorem dX6_frostParts_66 : decode cX6_frostParts 66 = .ok (.aload_n 0, 1) := by decide +kernel
theorem dX6_frostParts_67 : decode cX6_frostParts 67 = .ok (.getfield 15, 3) := by decide +kernel
theorem dX6_frostParts_70 : decode cX6_frostParts 70 = .ok (.aload_n 0, 1) := by decide +kernel
theorem dX6_frostParts_71 : decode cX6_frostParts 71 = .ok (.getfield 71, 3) := by decide +kernel
theorem dX6_frostParts_74 : decode cX6_frostParts 74 = .ok (.iload_n 3, 1) := by decide +kernel
theorem dX6_frostParts_75 : decode cX6_frostParts 75 = .ok (.iastore, 1) := by decide +kernel
theorem dX6_frostParts_76 : decode cX6_frostParts 76 = .ok (.aload_n 0, 1) := by decide +kernel
theorem dX6_frostParts_77 : decode cX6_frostParts 77 = .ok (.dup, 1) := by decide +kernel
theorem dX6_frostParts_78 : decode cX6_frostParts 78 = .ok (.getfield 71, 3) := by decide +kernel
theorem dX6_frostParts_81 : decode cX6_frostParts 81 = .ok (.iconst 1, 1) := by decide +kernel
theorem dX6_frostParts_82 : decode cX6_frostParts 82 = .ok (.iadd, 1) := by decide +kernel
theorem dX6_frostParts_83 : decode cX6_frostParts 83 = .ok (.putfield 71, 3) := by decide +kernel
theorem dX6_frostParts_86 : decode cX6_frostParts 86 = .ok (.iinc 3 1, 3) := by decide +kernel
theorem dX6_frostParts_89 : decode cX6_frostParts 89 = .ok (.goto (-77), 3) := by decide +kernel
theorem dX6_frostParts_92 : decode cX6_frostParts 92 = .ok (.bipush 10, 2) := by decide +kernel
theorem dX6_frostParts_94 : decode cX6_frostParts 94 = .ok (.aload_n 0, 1) := by decide +kernel
theorem dX6_frostParts_95 : decode cX6_frostParts 95 = .ok (.getfield 71, 3) := by decide +kernel
theorem dX6_frostParts_98 : decode cX6_frostParts 98 = .ok (.invokestatic 83, 3) := by decide +kernel
theorem dX6_frostParts_101 : decode cX6_frostParts 101 = .ok (.ireturn, 1) := by decide +kernel
theorem dX6_frostUnheard_0 : decode cX6_frostUnheard 0 = .ok (.iconst 0, 1) := by decide +kernel
theorem dX6_frostUnheard_1 : decode cX6_frostUnheard 1 = .ok (.istore 4, 2) := by decide +kernel
theorem dX6_frostUnheard_3 : decode cX6_frostUnheard 3 = .ok (.iconst 0, 1) := by decide +kernel
theorem dX6_frostUnheard_4 : decode cX6_frostUnheard 4 = .ok (.istore 5, 2) := by decide +kernel
theorem dX6_frostUnheard_6 : decode cX6_frostUnheard 6 = .ok (.iload 5, 2) := by decide +kernel
theorem dX6_frostUnheard_8 : decode cX6_frostUnheard 8 = .ok (.iconst 1, 1) := by decide +kernel
theorem dX6_frostUnheard_9 : decode cX6_frostUnheard 9 = .ok (.aload_n 0, 1) := by decide +kernel
theorem dX6_frostUnheard_10 : decode cX6_frostUnheard 10 = .ok (.getfield 71, 3) := by decide +kernel
theorem dX6_frostUnheard_13 : decode cX6_frostUnheard 13 = .ok (.ishl, 1) := by decide +kernel
theorem dX6_frostUnheard_14 : decode cX6_frostUnheard 14 = .ok (.if_icmp .ge 71, 3) := by decide +kernel
theorem dX6_frostUnheard_17 : decode cX6_frostUnheard 17 = .ok (.iload 5, 2) := by decide +kernel
theorem dX6_frostUnheard_19 : decode cX6_frostUnheard 19 = .ok (.invokestatic 86, 3) := by decide +kernel
theorem dX6_frostUnheard_22 : decode cX6_frostUnheard 22 = .ok (.istore 6, 2) := by decide +kernel
theorem dX6_frostUnheard_24 : decode cX6_frostUnheard 24 = .ok (.iload_n 3, 1) := by decide +kernel
theorem dX6_frostUnheard_25 : decode cX6_frostUnheard 25 = .ok (.iload 6, 2) := by decide +kernel
theorem dX6_frostUnheard_27 : decode cX6_frostUnheard 27 = .ok (.invokestatic 83, 3) := by decide +kernel
theorem dX6_frostUnheard_30 : decode cX6_frostUnheard 30 = .ok (.bipush 10, 2) := by decide +kernel
theorem dX6_frostUnheard_32 : decode cX6_frostUnheard 32 = .ok (.iload_n 3, 1) := by decide +kernel
theorem dX6_frostUnheard_33 : decode cX6_frostUnheard 33 = .ok (.isub, 1) := by decide +kernel
theorem dX6_frostUnheard_34 : decode cX6_frostUnheard 34 = .ok (.aload_n 0, 1) := by decide +kernel
theorem dX6_frostUnheard_35 : decode cX6_frostUnheard 35 = .ok (.getfield 71, 3) := by decide +kernel
theorem dX6_frostUnheard_38 : decode cX6_frostUnheard 38 = .ok (.iload 6, 2) := by decide +kernel
theorem dX6_frostUnheard_40 : decode cX6_frostUnheard 40 = .ok (.isub, 1) := by decide +kernel
theorem dX6_frostUnheard_41 : decode cX6_frostUnheard 41 = .ok (.invokestatic 83, 3) := by decide +kernel
theorem dX6_frostUnheard_44 : decode cX6_frostUnheard 44 = .ok (.imul, 1) := by decide +kernel
theorem dX6_frostUnheard_45 : decode cX6_frostUnheard 45 = .ok (.istore 7, 2) := by decide +kernel
theorem dX6_frostUnheard_47 : decode cX6_frostUnheard 47 = .ok (.iload 7, 2) := by decide +kernel
theorem dX6_frostUnheard_49 : decode cX6_frostUnheard 49 = .ok (.ifCond .le 30, 3) := by decide +kernel
theorem dX6_frostUnheard_52 : decode cX6_frostUnheard 52 = .ok (.aload_n 0, 1) := by decide +kernel
theorem dX6_frostUnheard_53 : decode cX6_frostUnheard 53 = .ok (.iload_n 1, 1) := by decide +kernel
theorem dX6_frostUnheard_54 : decode cX6_frostUnheard 54 = .ok (.iload_n 2, 1) := by decide +kernel
theorem dX6_frostUnheard_55 : decode cX6_frostUnheard 55 = .ok (.aload_n 0, 1) := by decide +kernel
theorem dX6_frostUnheard_56 : decode cX6_frostUnheard 56 = .ok (.getfield 68, 3) := by decide +kernel
theorem dX6_frostUnheard_59 : decode cX6_frostUnheard 59 = .ok (.aload_n 0, 1) := by decide +kernel
theorem dX6_frostUnheard_60 : decode cX6_frostUnheard 60 = .ok (.iload 5, 2) := by decide +kernel
theorem dX6_frostUnheard_62 : decode cX6_frostUnheard 62 = .ok (.invokevirtual 92, 3) := by decide +kernel
theorem dX6_frostUnheard_65 : decode cX6_frostUnheard 65 = .ok (.ior, 1) := by decide +kernel
theorem dX6_frostUnheard_66 : decode cX6_frostUnheard 66 = .ok (.invokevirtual 95, 3) := by decide +kernel
theorem dX6_frostUnheard_69 : decode cX6_frostUnheard 69 = .ok (.ifCond .eq 10, 3) := by decide +kernel
theorem dX6_frostUnheard_72 : decode cX6_frostUnheard 72 = .ok (.iload 4, 2) := by decide +kernel
theorem dX6_frostUnheard_74 : decode cX6_frostUnheard 74 = .ok (.iload 7, 2) := by decide +kernel
theorem dX6_frostUnheard_76 : decode cX6_frostUnheard 76 = .ok (.iadd, 1) := by decide +kernel
theorem dX6_frostUnheard_77 : decode cX6_frostUnheard 77 = .ok (.istore 4, 2) := by decide +kernel
theorem dX6_frostUnheard_79 : decode cX6_frostUnheard 79 = .ok (.iinc 5 1, 3) := by decide +kernel
theorem dX6_frostUnheard_82 : decode cX6_frostUnheard 82 = .ok (.goto (-76), 3) := by decide +kernel
theorem dX6_frostUnheard_85 : decode cX6_frostUnheard 85 = .ok (.iload 4, 2) := by decide +kernel
theorem dX6_frostUnheard_87 : decode cX6_frostUnheard 87 = .ok (.ireturn, 1) := by decide +kernel
theorem dX6_snappedFences_0 : decode cX6_snappedFences 0 = .ok (.iconst 0, 1) := by decide +kernel
theorem dX6_snappedFences_1 : decode cX6_snappedFences 1 = .ok (.istore_n 2, 1) := by decide +kernel
theorem dX6_snappedFences_2 : decode cX6_snappedFences 2 = .ok (.iconst 0, 1) := by decide +kernel
theorem dX6_snappedFences_3 : decode cX6_snappedFences 3 = .ok (.istore_n 3, 1) := by decide +kernel
theorem dX6_snappedFences_4 : decode cX6_snappedFences 4 = .ok (.iload_n 3, 1) := by decide +kernel
theorem dX6_snappedFences_5 : decode cX6_snappedFences 5 = .ok (.aload_n 0, 1) := by decide +kernel
theorem dX6_snappedFences_6 : decode cX6_snappedFences 6 = .ok (.getfield 71, 3) := by decide +kernel
theorem dX6_snappedFences_9 : decode cX6_snappedFences 9 = .ok (.if_icmp .ge 24, 3) := by decide +kernel
theorem dX6_snappedFences_12 : decode cX6_snappedFences 12 = .ok (.iload_n 2, 1) := by decide +kernel
theorem dX6_snappedFences_13 : decode cX6_snappedFences 13 = .ok (.iload_n 1, 1) := by decide +kernel
theorem dX6_snappedFences_14 : decode cX6_snappedFences 14 = .ok (.iload_n 3, 1) := by decide +kernel
theorem dX6_snappedFences_15 : decode cX6_snappedFences 15 = .ok (.ishr, 1) := by decide +kernel
theorem dX6_snappedFences_16 : decode cX6_snappedFences 16 = .ok (.iconst 1, 1) := by decide +kernel
theorem dX6_snappedFences_17 : decode cX6_snappedFences 17 = .ok (.iand, 1) := by decide +kernel
theorem dX6_snappedFences_18 : decode cX6_snappedFences 18 = .ok (.aload_n 0, 1) := by decide +kernel
theorem dX6_snappedFences_19 : decode cX6_snappedFences 19 = .ok (.getfield 15, 3) := by decide +kernel
theorem dX6_snappedFences_22 : decode cX6_snappedFences 22 = .ok (.iload_n 3, 1) := by decide +kernel
theorem dX6_snappedFences_23 : decode cX6_snappedFences 23 = .ok (.iaload, 1) := by decide +kernel
theorem dX6_snappedFences_24 : decode cX6_snappedFences 24 = .ok (.ishl, 1) := by decide +kernel
theorem dX6_snappedFences_25 : decode cX6_snappedFences 25 = .ok (.ior, 1) := by decide +kernel
theorem dX6_snappedFences_26 : decode cX6_snappedFences 26 = .ok (.istore_n 2, 1) := by decide +kernel
theorem dX6_snappedFences_27 : decode cX6_snappedFences 27 = .ok (.iinc 3 1, 3) := by decide +kernel
theorem dX6_snappedFences_30 : decode cX6_snappedFences 30 = .ok (.goto (-26), 3) := by decide +kernel
theorem dX6_snappedFences_33 : decode cX6_snappedFences 33 = .ok (.iload_n 2, 1) := by decide +kernel
theorem dX6_snappedFences_34 : decode cX6_snappedFences 34 = .ok (.ireturn, 1) := by decide +kernel
theorem dX6_reaches_0 : decode cX6_reaches 0 = .ok (.iconst 1, 1) := by decide +kernel
theorem dX6_reaches_1 : decode cX6_reaches 1 = .ok (.iload_n 1, 1) := by decide +kernel
theorem dX6_reaches_2 : decode cX6_reaches 2 = .ok (.ishl, 1) := by decide +kernel
theorem dX6_reaches_3 : decode cX6_reaches 3 = .ok (.istore 4, 2) := by decide +kernel
theorem dX6_reaches_5 : decode cX6_reaches 5 = .ok (.iconst 1, 1) := by decide +kernel
theorem dX6_reaches_6 : decode cX6_reaches 6 = .ok (.istore 5, 2) := by decide +kernel
theorem dX6_reaches_8 : decode cX6_reaches 8 = .ok (.iload 5, 2) := by decide +kernel
theorem dX6_reaches_10 : decode cX6_reaches 10 = .ok (.aload_n 0, 1) := by decide +kernel
theorem dX6_reaches_11 : decode cX6_reaches 11 = .ok (.getfield 28, 3) := by decide +kernel
theorem dX6_reaches_14 : decode cX6_reaches 14 = .ok (.getfield 54, 3) := by decide +kernel
theorem dX6_reaches_17 : decode cX6_reaches 17 = .ok (.if_icmp .ge 69, 3) := by decide +kernel
theorem dX6_reaches_20 : decode cX6_reaches 20 = .ok (.iconst 0, 1) := by decide +kernel
theorem dX6_reaches_21 : decode cX6_reaches 21 = .ok (.istore 6, 2) := by decide +kernel
theorem dX6_reaches_23 : decode cX6_reaches 23 = .ok (.iload 6, 2) := by decide +kernel
theorem dX6_reaches_25 : decode cX6_reaches 25 = .ok (.aload_n 0, 1) := by decide +kernel
theorem dX6_reaches_26 : decode cX6_reaches 26 = .ok (.getfield 28, 3) := by decide +kernel
theorem dX6_reaches_29 : decode cX6_reaches 29 = .ok (.getfield 34, 3) := by decide +kernel
theorem dX6_reaches_32 : decode cX6_reaches 32 = .ok (.if_icmp .ge 48, 3) := by decide +kernel
theorem dX6_reaches_35 : decode cX6_reaches 35 = .ok (.iload_n 3, 1) := by decide +kernel
theorem dX6_reaches_36 : decode cX6_reaches 36 = .ok (.iload 6, 2) := by decide +kernel
theorem dX6_reaches_38 : decode cX6_reaches 38 = .ok (.ishr, 1) := by decide +kernel
theorem dX6_reaches_39 : decode cX6_reaches 39 = .ok (.iconst 1, 1) := by decide +kernel
theorem dX6_reaches_40 : decode cX6_reaches 40 = .ok (.iand, 1) := by decide +kernel
theorem dX6_reaches_41 : decode cX6_reaches 41 = .ok (.iconst 1, 1) := by decide +kernel
theorem dX6_reaches_42 : decode cX6_reaches 42 = .ok (.if_icmp .ne 32, 3) := by decide +kernel
theorem dX6_reaches_45 : decode cX6_reaches 45 = .ok (.iload 4, 2) := by decide +kernel
theorem dX6_reaches_47 : decode cX6_reaches 47 = .ok (.aload_n 0, 1) := by decide +kernel
theorem dX6_reaches_48 : decode cX6_reaches 48 = .ok (.getfield 28, 3) := by decide +kernel
theorem dX6_reaches_51 : decode cX6_reaches 51 = .ok (.iload 6, 2) := by decide +kernel
theorem dX6_reaches_53 : decode cX6_reaches 53 = .ok (.invokevirtual 99, 3) := by decide +kernel
theorem dX6_reaches_56 : decode cX6_reaches 56 = .ok (.iand, 1) := by decide +kernel
theorem dX6_reaches_57 : decode cX6_reaches 57 = .ok (.ifCond .eq 17, 3) := by decide +kernel
theorem dX6_reaches_60 : decode cX6_reaches 60 = .ok (.iload 4, 2) := by decide +kernel
theorem dX6_reaches_62 : decode cX6_reaches 62 = .ok (.aload_n 0, 1) := by decide +kernel
theorem dX6_reaches_63 : decode cX6_reaches 63 = .ok (.getfield 28, 3) := by decide +kernel
theorem dX6_reaches_66 : decode cX6_reaches 66 = .ok (.iload 6, 2) := by decide +kernel
theorem dX6_reaches_68 : decode cX6_reaches 68 = .ok (.invokevirtual 99, 3) := by decide +kernel
theorem dX6_reaches_71 : decode cX6_reaches 71 = .ok (.ior, 1) := by decide +kernel
theorem dX6_reaches_72 : decode cX6_reaches 72 = .ok (.istore 4, 2) := by decide +kernel
theorem dX6_reaches_74 : decode cX6_reaches 74 = .ok (.iinc 6 1, 3) := by decide +kernel
theorem dX6_reaches_77 : decode cX6_reaches 77 = .ok (.goto (-54), 3) := by decide +kernel
theorem dX6_reaches_80 : decode cX6_reaches 80 = .ok (.iinc 5 1, 3) := by decide +kernel
theorem dX6_reaches_83 : decode cX6_reaches 83 = .ok (.goto (-75), 3) := by decide +kernel
theorem dX6_reaches_86 : decode cX6_reaches 86 = .ok (.iload 4, 2) := by decide +kernel
theorem dX6_reaches_88 : decode cX6_reaches 88 = .ok (.iload_n 2, 1) := by decide +kernel
theorem dX6_reaches_89 : decode cX6_reaches 89 = .ok (.ishr, 1) := by decide +kernel
theorem dX6_reaches_90 : decode cX6_reaches 90 = .ok (.iconst 1, 1) := by decide +kernel
theorem dX6_reaches_91 : decode cX6_reaches 91 = .ok (.iand, 1) := by decide +kernel
theorem dX6_reaches_92 : decode cX6_reaches 92 = .ok (.iconst 1, 1) := by decide +kernel
theorem dX6_reaches_93 : decode cX6_reaches 93 = .ok (.if_icmp .ne 7, 3) := by decide +kernel
theorem dX6_reaches_96 : decode cX6_reaches 96 = .ok (.iconst 1, 1) := by decide +kernel
theorem dX6_reaches_97 : decode cX6_reaches 97 = .ok (.goto 4, 3) := by decide +kernel
theorem dX6_reaches_100 : decode cX6_reaches 100 = .ok (.iconst 0, 1) := by decide +kernel
theorem dX6_reaches_101 : decode cX6_reaches 101 = .ok (.ireturn, 1) := by decide +kernel
theorem dX6_power_0 : decode cX6_power 0 = .ok (.iconst 1, 1) := by decide +kernel
theorem dX6_power_1 : decode cX6_power 1 = .ok (.istore_n 2, 1) := by decide +kernel
theorem dX6_power_2 : decode cX6_power 2 = .ok (.iconst 0, 1) := by decide +kernel
theorem dX6_power_3 : decode cX6_power 3 = .ok (.istore_n 3, 1) := by decide +kernel
theorem dX6_power_4 : decode cX6_power 4 = .ok (.iload_n 3, 1) := by decide +kernel
theorem dX6_power_5 : decode cX6_power 5 = .ok (.iload_n 1, 1) := by decide +kernel
theorem dX6_power_6 : decode cX6_power 6 = .ok (.if_icmp .ge 13, 3) := by decide +kernel
theorem dX6_power_9 : decode cX6_power 9 = .ok (.iload_n 2, 1) := by decide +kernel
theorem dX6_power_10 : decode cX6_power 10 = .ok (.iload_n 0, 1) := by decide +kernel
theorem dX6_power_11 : decode cX6_power 11 = .ok (.imul, 1) := by decide +kernel
theorem dX6_power_12 : decode cX6_power 12 = .ok (.istore_n 2, 1) := by decide +kernel
theorem dX6_power_13 : decode cX6_power 13 = .ok (.iinc 3 1, 3) := by decide +kernel
theorem dX6_power_16 : decode cX6_power 16 = .ok (.goto (-12), 3) := by decide +kernel
theorem dX6_power_19 : decode cX6_power 19 = .ok (.iload_n 2, 1) := by decide +kernel
theorem dX6_power_20 : decode cX6_power 20 = .ok (.ireturn, 1) := by decide +kernel
theorem dX6_commonDivisor_0 : decode cX6_commonDivisor 0 = .ok (.iload_n 0, 1) := by decide +kernel
theorem dX6_commonDivisor_1 : decode cX6_commonDivisor 1 = .ok (.istore_n 2, 1) := by decide +kernel
theorem dX6_commonDivisor_2 : decode cX6_commonDivisor 2 = .ok (.iload_n 1, 1) := by decide +kernel
theorem dX6_commonDivisor_3 : decode cX6_commonDivisor 3 = .ok (.istore_n 3, 1) := by decide +kernel
theorem dX6_commonDivisor_4 : decode cX6_commonDivisor 4 = .ok (.iconst 0, 1) := by decide +kernel
theorem dX6_commonDivisor_5 : decode cX6_commonDivisor 5 = .ok (.istore 4, 2) := by decide +kernel
theorem dX6_commonDivisor_7 : decode cX6_commonDivisor 7 = .ok (.iload 4, 2) := by decide +kernel
theorem dX6_commonDivisor_9 : decode cX6_commonDivisor 9 = .ok (.bipush 100, 2) := by decide +kernel
theorem dX6_commonDivisor_11 : decode cX6_commonDivisor 11 = .ok (.if_icmp .ge 23, 3) := by decide +kernel
theorem dX6_commonDivisor_14 : decode cX6_commonDivisor 14 = .ok (.iload_n 3, 1) := by decide +kernel
theorem dX6_commonDivisor_15 : decode cX6_commonDivisor 15 = .ok (.ifCond .eq 19, 3) := by decide +kernel
theorem dX6_commonDivisor_18 : decode cX6_commonDivisor 18 = .ok (.iload_n 2, 1) := by decide +kernel
theorem dX6_commonDivisor_19 : decode cX6_commonDivisor 19 = .ok (.iload_n 3, 1) := by decide +kernel
theorem dX6_commonDivisor_20 : decode cX6_commonDivisor 20 = .ok (.irem, 1) := by decide +kernel
theorem dX6_commonDivisor_21 : decode cX6_commonDivisor 21 = .ok (.istore 5, 2) := by decide +kernel
theorem dX6_commonDivisor_23 : decode cX6_commonDivisor 23 = .ok (.iload_n 3, 1) := by decide +kernel
theorem dX6_commonDivisor_24 : decode cX6_commonDivisor 24 = .ok (.istore_n 2, 1) := by decide +kernel
theorem dX6_commonDivisor_25 : decode cX6_commonDivisor 25 = .ok (.iload 5, 2) := by decide +kernel
theorem dX6_commonDivisor_27 : decode cX6_commonDivisor 27 = .ok (.istore_n 3, 1) := by decide +kernel
theorem dX6_commonDivisor_28 : decode cX6_commonDivisor 28 = .ok (.iinc 4 1, 3) := by decide +kernel
theorem dX6_commonDivisor_31 : decode cX6_commonDivisor 31 = .ok (.goto (-24), 3) := by decide +kernel
theorem dX6_commonDivisor_34 : decode cX6_commonDivisor 34 = .ok (.iload_n 2, 1) := by decide +kernel
theorem dX6_commonDivisor_35 : decode cX6_commonDivisor 35 = .ok (.ireturn, 1) := by decide +kernel
theorem dX7_init_0 : decode cX7_init 0 = .ok (.aload_n 0, 1) := by decide +kernel
theorem dX7_init_1 : decode cX7_init 1 = .ok (.invokespecial 3, 3) := by decide +kernel
theorem dX7_init_4 : decode cX7_init 4 = .ok (.aload_n 0, 1) := by decide +kernel
theorem dX7_init_5 : decode cX7_init 5 = .ok (.bipush 6, 2) := by decide +kernel
theorem dX7_init_7 : decode cX7_init 7 = .ok (.newarray .int, 2) := by decide +kernel
theorem dX7_init_9 : decode cX7_init 9 = .ok (.putfield 9, 3) := by decide +kernel
theorem dX7_init_12 : decode cX7_init 12 = .ok (.aload_n 0, 1) := by decide +kernel
theorem dX7_init_13 : decode cX7_init 13 = .ok (.bipush 8, 2) := by decide +kernel
theorem dX7_init_15 : decode cX7_init 15 = .ok (.newarray .int, 2) := by decide +kernel
theorem dX7_init_17 : decode cX7_init 17 = .ok (.putfield 15, 3) := by decide +kernel
theorem dX7_init_20 : decode cX7_init 20 = .ok (.aload_n 0, 1) := by decide +kernel
theorem dX7_init_21 : decode cX7_init 21 = .ok (.bipush 12, 2) := by decide +kernel
theorem dX7_init_23 : decode cX7_init 23 = .ok (.newarray .int, 2) := by decide +kernel
theorem dX7_init_25 : decode cX7_init 25 = .ok (.putfield 18, 3) := by decide +kernel
theorem dX7_init_28 : decode cX7_init 28 = .ok (.return_, 1) := by decide +kernel
theorem dX7_begin_0 : decode cX7_begin 0 = .ok (.aload_n 1, 1) := by decide +kernel
theorem dX7_begin_1 : decode cX7_begin 1 = .ok (.getfield 21, 3) := by decide +kernel
theorem dX7_begin_4 : decode cX7_begin 4 = .ok (.iconst 0, 1) := by decide +kernel
theorem dX7_begin_5 : decode cX7_begin 5 = .ok (.aload_n 0, 1) := by decide +kernel
theorem dX7_begin_6 : decode cX7_begin 6 = .ok (.getfield 9, 3) := by decide +kernel
theorem dX7_begin_9 : decode cX7_begin 9 = .ok (.iconst 0, 1) := by decide +kernel
theorem dX7_begin_10 : decode cX7_begin 10 = .ok (.bipush 6, 2) := by decide +kernel
theorem dX7_begin_12 : decode cX7_begin 12 = .ok (.invokestatic 24, 3) := by decide +kernel
theorem dX7_begin_15 : decode cX7_begin 15 = .ok (.aload_n 1, 1) := by decide +kernel
theorem dX7_begin_16 : decode cX7_begin 16 = .ok (.getfield 30, 3) := by decide +kernel
theorem dX7_begin_19 : decode cX7_begin 19 = .ok (.iconst 0, 1) := by decide +kernel
theorem dX7_begin_20 : decode cX7_begin 20 = .ok (.aload_n 0, 1) := by decide +kernel
theorem dX7_begin_21 : decode cX7_begin 21 = .ok (.getfield 15, 3) := by decide +kernel
theorem dX7_begin_24 : decode cX7_begin 24 = .ok (.iconst 0, 1) := by decide +kernel
theorem dX7_begin_25 : decode cX7_begin 25 = .ok (.bipush 8, 2) := by decide +kernel
theorem dX7_begin_27 : decode cX7_begin 27 = .ok (.invokestatic 24, 3) := by decide +kernel
theorem dX7_begin_30 : decode cX7_begin 30 = .ok (.aload_n 0, 1) := by decide +kernel
theorem dX7_begin_31 : decode cX7_begin 31 = .ok (.iconst 0, 1) := by decide +kernel
theorem dX7_begin_32 : decode cX7_begin 32 = .ok (.putfield 31, 3) := by decide +kernel
theorem dX7_begin_35 : decode cX7_begin 35 = .ok (.aload_n 0, 1) := by decide +kernel
theorem dX7_begin_36 : decode cX7_begin 36 = .ok (.iconst 0, 1) := by decide +kernel
theorem dX7_begin_37 : decode cX7_begin 37 = .ok (.putfield 35, 3) := by decide +kernel
theorem dX7_begin_40 : decode cX7_begin 40 = .ok (.aload_n 0, 1) := by decide +kernel
theorem dX7_begin_41 : decode cX7_begin 41 = .ok (.iconst 0, 1) := by decide +kernel
theorem dX7_begin_42 : decode cX7_begin 42 = .ok (.putfield 38, 3) := by decide +kernel
theorem dX7_begin_45 : decode cX7_begin 45 = .ok (.aload_n 0, 1) := by decide +kernel
theorem dX7_begin_46 : decode cX7_begin 46 = .ok (.aload_n 1, 1) := by decide +kernel
theorem dX7_begin_47 : decode cX7_begin 47 = .ok (.getfield 41, 3) := by decide +kernel
theorem dX7_begin_50 : decode cX7_begin 50 = .ok (.putfield 44, 3) := by decide +kernel
theorem dX7_begin_53 : decode cX7_begin 53 = .ok (.return_, 1) := by decide +kernel
theorem dX7_copyFrom_0 : decode cX7_copyFrom 0 = .ok (.aload_n 1, 1) := by decide +kernel
theorem dX7_copyFrom_1 : decode cX7_copyFrom 1 = .ok (.getfield 9, 3) := by decide +kernel
theorem dX7_copyFrom_4 : decode cX7_copyFrom 4 = .ok (.iconst 0, 1) := by decide +kernel
theorem dX7_copyFrom_5 : decode cX7_copyFrom 5 = .ok (.aload_n 0, 1) := by decide +kernel
theorem dX7_copyFrom_6 : decode cX7_copyFrom 6 = .ok (.getfield 9, 3) := by decide +kernel
theorem dX7_copyFrom_9 : decode cX7_copyFrom 9 = .ok (.iconst 0, 1) := by decide +kernel
theorem dX7_copyFrom_10 : decode cX7_copyFrom 10 = .ok (.bipush 6, 2) := by decide +kernel
theorem dX7_copyFrom_12 : decode cX7_copyFrom 12 = .ok (.invokestatic 24, 3) := by decide +kernel
theorem dX7_copyFrom_15 : decode cX7_copyFrom 15 = .ok (.aload_n 1, 1) := by decide +kernel
theorem dX7_copyFrom_16 : decode cX7_copyFrom 16 = .ok (.getfield 15, 3) := by decide +kernel
theorem dX7_copyFrom_19 : decode cX7_copyFrom 19 = .ok (.iconst 0, 1) := by decide +kernel
theorem dX7_copyFrom_20 : decode cX7_copyFrom 20 = .ok (.aload_n 0, 1) := by decide +kernel
theorem dX7_copyFrom_21 : decode cX7_copyFrom 21 = .ok (.getfield 15, 3) := by decide +kernel
theorem dX7_copyFrom_24 : decode cX7_copyFrom 24 = .ok (.iconst 0, 1) := by decide +kernel
theorem dX7_copyFrom_25 : decode cX7_copyFrom 25 = .ok (.bipush 8, 2) := by decide +kernel
theorem dX7_copyFrom_27 : decode cX7_copyFrom 27 = .ok (.invokestatic 24, 3) := by decide +kernel
theorem dX7_copyFrom_30 : decode cX7_copyFrom 30 = .ok (.aload_n 1, 1) := by decide +kernel
theorem dX7_copyFrom_31 : decode cX7_copyFrom 31 = .ok (.getfield 18, 3) := by decide +kernel
theorem dX7_copyFrom_34 : decode cX7_copyFrom 34 = .ok (.iconst 0, 1) := by decide +kernel
theorem dX7_copyFrom_35 : decode cX7_copyFrom 35 = .ok (.aload_n 0, 1) := by decide +kernel
theorem dX7_copyFrom_36 : decode cX7_copyFrom 36 = .ok (.getfield 18, 3) := by decide +kernel
theorem dX7_copyFrom_39 : decode cX7_copyFrom 39 = .ok (.iconst 0, 1) := by decide +kernel
theorem dX7_copyFrom_40 : decode cX7_copyFrom 40 = .ok (.bipush 12, 2) := by decide +kernel
theorem dX7_copyFrom_42 : decode cX7_copyFrom 42 = .ok (.invokestatic 24, 3) := by decide +kernel
theorem dX7_copyFrom_45 : decode cX7_copyFrom 45 = .ok (.aload_n 0, 1) := by decide +kernel
theorem dX7_copyFrom_46 : decode cX7_copyFrom 46 = .ok (.aload_n 1, 1) := by decide +kernel
theorem dX7_copyFrom_47 : decode cX7_copyFrom 47 = .ok (.getfield 31, 3) := by decide +kernel
theorem dX7_copyFrom_50 : decode cX7_copyFrom 50 = .ok (.putfield 31, 3) := by decide +kernel
theorem dX7_copyFrom_53 : decode cX7_copyFrom 53 = .ok (.aload_n 0, 1) := by decide +kernel
theorem dX7_copyFrom_54 : decode cX7_copyFrom 54 = .ok (.aload_n 1, 1) := by decide +kernel
theorem dX7_copyFrom_55 : decode cX7_copyFrom 55 = .ok (.getfield 35, 3) := by decide +kernel
theorem dX7_copyFrom_58 : decode cX7_copyFrom 58 = .ok (.putfield 35, 3) := by decide +kernel
theorem dX7_copyFrom_61 : decode cX7_copyFrom 61 = .ok (.aload_n 0, 1) := by decide +kernel
theorem dX7_copyFrom_62 : decode cX7_copyFrom 62 = .ok (.aload_n 1, 1) := by decide +kernel
theorem dX7_copyFrom_63 : decode cX7_copyFrom 63 = .ok (.getfield 38, 3) := by decide +kernel
theorem dX7_copyFrom_66 : decode cX7_copyFrom 66 = .ok (.putfield 38, 3) := by decide +kernel
theorem dX7_copyFrom_69 : decode cX7_copyFrom 69 = .ok (.aload_n 0, 1) := by decide +kernel
theorem dX7_copyFrom_70 : decode cX7_copyFrom 70 = .ok (.aload_n 1, 1) := by decide +kernel
theorem dX7_copyFrom_71 : decode cX7_copyFrom 71 = .ok (.getfield 44, 3) := by decide +kernel
theorem dX7_copyFrom_74 : decode cX7_copyFrom 74 = .ok (.putfield 44, 3) := by decide +kernel
theorem dX7_copyFrom_77 : decode cX7_copyFrom 77 = .ok (.return_, 1) := by decide +kernel
theorem dX7_sing_0 : decode cX7_sing 0 = .ok (.aload_n 0, 1) := by decide +kernel
theorem dX7_sing_1 : decode cX7_sing 1 = .ok (.getfield 18, 3) := by decide +kernel
theorem dX7_sing_4 : decode cX7_sing 4 = .ok (.iconst 0, 1) := by decide +kernel
theorem dX7_sing_5 : decode cX7_sing 5 = .ok (.aload_n 0, 1) := by decide +kernel
theorem dX7_sing_6 : decode cX7_sing 6 = .ok (.getfield 18, 3) := by decide +kernel
theorem dX7_sing_9 : decode cX7_sing 9 = .ok (.iconst 1, 1) := by decide +kernel
theorem dX7_sing_10 : decode cX7_sing 10 = .ok (.bipush 11, 2) := by decide +kernel
theorem dX7_sing_12 : decode cX7_sing 12 = .ok (.invokestatic 24, 3) := by decide +kernel
theorem dX7_sing_15 : decode cX7_sing 15 = .ok (.aload_n 0, 1) := by decide +kernel
theorem dX7_sing_16 : decode cX7_sing 16 = .ok (.getfield 18, 3) := by decide +kernel
theorem dX7_sing_19 : decode cX7_sing 19 = .ok (.iconst 0, 1) := by decide +kernel
theorem dX7_sing_20 : decode cX7_sing 20 = .ok (.iload_n 1, 1) := by decide +kernel
theorem dX7_sing_21 : decode cX7_sing 21 = .ok (.iastore, 1) := by decide +kernel
theorem dX7_sing_22 : decode cX7_sing 22 = .ok (.aload_n 0, 1) := by decide +kernel
theorem dX7_sing_23 : decode cX7_sing 23 = .ok (.bipush 12, 2) := by decide +kernel
theorem dX7_sing_25 : decode cX7_sing 25 = .ok (.aload_n 0, 1) := by decide +kernel
theorem dX7_sing_26 : decode cX7_sing 26 = .ok (.getfield 31, 3) := by decide +kernel
theorem dX7_sing_29 : decode cX7_sing 29 = .ok (.iconst 1, 1) := by decide +kernel
theorem dX7_sing_30 : decode cX7_sing 30 = .ok (.iadd, 1) := by decide +kernel
theorem dX7_sing_31 : decode cX7_sing 31 = .ok (.invokestatic 45, 3) := by decide +kernel
theorem dX7_sing_34 : decode cX7_sing 34 = .ok (.putfield 31, 3) := by decide +kernel
theorem dX7_sing_37 : decode cX7_sing 37 = .ok (.return_, 1) := by decide +kernel
theorem dX8_init_0 : decode cX8_init 0 = .ok (.aload_n 0, 1) := by decide +kernel
theorem dX8_init_1 : decode cX8_init 1 = .ok (.invokespecial 3, 3) := by decide +kernel
theorem dX8_init_4 : decode cX8_init 4 = .ok (.aload_n 0, 1) := by decide +kernel
theorem dX8_init_5 : decode cX8_init 5 = .ok (.sipush 150, 3) := by decide +kernel
theorem dX8_init_8 : decode cX8_init 8 = .ok (.newarray .int, 2) := by decide +kernel
theorem dX8_init_10 : decode cX8_init 10 = .ok (.putfield 9, 3) := by decide +kernel
theorem dX8_init_13 : decode cX8_init 13 = .ok (.return_, 1) := by decide +kernel
theorem dX8_takes_0 : decode cX8_takes 0 = .ok (.aload_n 0, 1) := by decide +kernel
theorem dX8_takes_1 : decode cX8_takes 1 = .ok (.getfield 15, 3) := by decide +kernel
theorem dX8_takes_4 : decode cX8_takes 4 = .ok (.sipush 150, 3) := by decide +kernel
theorem dX8_takes_7 : decode cX8_takes 7 = .ok (.if_icmp .lt 5, 3) := by decide +kernel
theorem dX8_takes_10 : decode cX8_takes 10 = .ok (.iconst 0, 1) := by decide +kernel
theorem dX8_takes_11 : decode cX8_takes 11 = .ok (.ireturn, 1) := by decide +kernel
theorem dX8_takes_12 : decode cX8_takes 12 = .ok (.aload_n 0, 1) := by decide +kernel
theorem dX8_takes_13 : decode cX8_takes 13 = .ok (.getfield 9, 3) := by decide +kernel
theorem dX8_takes_16 : decode cX8_takes 16 = .ok (.aload_n 0, 1) := by decide +kernel
theorem dX8_takes_17 : decode cX8_takes 17 = .ok (.getfield 15, 3) := by decide +kernel
theorem dX8_takes_20 : decode cX8_takes 20 = .ok (.iload_n 1, 1) := by decide +kernel
theorem dX8_takes_21 : decode cX8_takes 21 = .ok (.iastore, 1) := by decide +kernel
theorem dX8_takes_22 : decode cX8_takes 22 = .ok (.aload_n 0, 1) := by decide +kernel
theorem dX8_takes_23 : decode cX8_takes 23 = .ok (.dup, 1) := by decide +kernel
theorem dX8_takes_24 : decode cX8_takes 24 = .ok (.getfield 15, 3) := by decide +kernel
theorem dX8_takes_27 : decode cX8_takes 27 = .ok (.iconst 1, 1) := by decide +kernel
theorem dX8_takes_28 : decode cX8_takes 28 = .ok (.iadd, 1) := by decide +kernel
theorem dX8_takes_29 : decode cX8_takes 29 = .ok (.putfield 15, 3) := by decide +kernel
theorem dX8_takes_32 : decode cX8_takes 32 = .ok (.iconst 1, 1) := by decide +kernel
theorem dX8_takes_33 : decode cX8_takes 33 = .ok (.ireturn, 1) := by decide +kernel
theorem dX8_tell_0 : decode cX8_tell 0 = .ok (.aload_n 1, 1) := by decide +kernel
theorem dX8_tell_1 : decode cX8_tell 1 = .ok (.invokevirtual 19, 3) := by decide +kernel
theorem dX8_tell_4 : decode cX8_tell 4 = .ok (.aload_n 0, 1) := by decide +kernel
theorem dX8_tell_5 : decode cX8_tell 5 = .ok (.iconst 0, 1) := by decide +kernel
theorem dX8_tell_6 : decode cX8_tell 6 = .ok (.putfield 24, 3) := by decide +kernel
theorem dX8_tell_9 : decode cX8_tell 9 = .ok (.aload_n 0, 1) := by decide +kernel
theorem dX8_tell_10 : decode cX8_tell 10 = .ok (.iconst 0, 1) := by decide +kernel
theorem dX8_tell_11 : decode cX8_tell 11 = .ok (.putfield 27, 3) := by decide +kernel
theorem dX8_tell_14 : decode cX8_tell 14 = .ok (.iconst 0, 1) := by decide +kernel
theorem dX8_tell_15 : decode cX8_tell 15 = .ok (.istore_n 2, 1) := by decide +kernel
theorem dX8_tell_16 : decode cX8_tell 16 = .ok (.iload_n 2, 1) := by decide +kernel
theorem dX8_tell_17 : decode cX8_tell 17 = .ok (.sipush 150, 3) := by decide +kernel
theorem dX8_tell_20 : decode cX8_tell 20 = .ok (.if_icmp .gt 233, 3) := by decide +kernel
theorem dX8_tell_23 : decode cX8_tell 23 = .ok (.aload_n 0, 1) := by decide +kernel
theorem dX8_tell_24 : decode cX8_tell 24 = .ok (.invokevirtual 31, 3) := by decide +kernel
theorem dX8_tell_27 : decode cX8_tell 27 = .ok (.aload_n 0, 1) := by decide +kernel
theorem dX8_tell_28 : decode cX8_tell 28 = .ok (.getfield 34, 3) := by decide +kernel
theorem dX8_tell_31 : decode cX8_tell 31 = .ok (.ifCond .ne 5, 3) := by decide +kernel
theorem dX8_tell_34 : decode cX8_tell 34 = .ok (.iload_n 2, 1) := by decide +kernel
theorem dX8_tell_35 : decode cX8_tell 35 = .ok (.ireturn, 1) := by decide +kernel
theorem dX8_tell_36 : decode cX8_tell 36 = .ok (.aload_n 0, 1) := by decide +kernel
theorem dX8_tell_37 : decode cX8_tell 37 = .ok (.getfield 34, 3) := by decide +kernel
theorem dX8_tell_40 : decode cX8_tell 40 = .ok (.iconst 1, 1) := by decide +kernel
theorem dX8_tell_41 : decode cX8_tell 41 = .ok (.if_icmp .ne 10, 3) := by decide +kernel
theorem dX8_tell_44 : decode cX8_tell 44 = .ok (.aload_n 0, 1) := by decide +kernel
theorem dX8_tell_45 : decode cX8_tell 45 = .ok (.getfield 37, 3) := by decide +kernel
theorem dX8_tell_48 : decode cX8_tell 48 = .ok (.goto 4, 3) := by decide +kernel
theorem dX8_tell_51 : decode cX8_tell 51 = .ok (.iconst 0, 1) := by decide +kernel
theorem dX8_tell_52 : decode cX8_tell 52 = .ok (.lookupswitch 174 #[(98, 124), (102, 73), (107, 99), (110, 52), (119, 150)], 52) := by decide +kernel
theorem dX8_tell_104 : decode cX8_tell 104 = .ok (.iload_n 2, 1) := by decide +kernel
theorem dX8_tell_105 : decode cX8_tell 105 = .ok (.ifCond .ne 15, 3) := by decide +kernel
theorem dX8_tell_108 : decode cX8_tell 108 = .ok (.aload_n 0, 1) := by decide +kernel
theorem dX8_tell_109 : decode cX8_tell 109 = .ok (.aload_n 1, 1) := by decide +kernel
theorem dX8_tell_110 : decode cX8_tell 110 = .ok (.invokevirtual 40, 3) := by decide +kernel
theorem dX8_tell_113 : decode cX8_tell 113 = .ok (.ifCond .eq 7, 3) := by decide +kernel
theorem dX8_tell_116 : decode cX8_tell 116 = .ok (.iconst 1, 1) := by decide +kernel
theorem dX8_tell_117 : decode cX8_tell 117 = .ok (.goto 4, 3) := by decide +kernel
theorem dX8_tell_120 : decode cX8_tell 120 = .ok (.iconst 0, 1) := by decide +kernel
theorem dX8_tell_121 : decode cX8_tell 121 = .ok (.istore_n 3, 1) := by decide +kernel
theorem dX8_tell_122 : decode cX8_tell 122 = .ok (.goto 106, 3) := by decide +kernel
theorem dX8_tell_125 : decode cX8_tell 125 = .ok (.aload_n 1, 1) := by decide +kernel
theorem dX8_tell_126 : decode cX8_tell 126 = .ok (.getfield 44, 3) := by decide +kernel
theorem dX8_tell_129 : decode cX8_tell 129 = .ok (.bipush 8, 2) := by decide +kernel
theorem dX8_tell_131 : decode cX8_tell 131 = .ok (.if_icmp .ge 15, 3) := by decide +kernel
theorem dX8_tell_134 : decode cX8_tell 134 = .ok (.aload_n 0, 1) := by decide +kernel
theorem dX8_tell_135 : decode cX8_tell 135 = .ok (.aload_n 1, 1) := by decide +kernel
theorem dX8_tell_136 : decode cX8_tell 136 = .ok (.invokevirtual 47, 3) := by decide +kernel
theorem dX8_tell_139 : decode cX8_tell 139 = .ok (.ifCond .eq 7, 3) := by decide +kernel
theorem dX8_tell_142 : decode cX8_tell 142 = .ok (.iconst 1, 1) := by decide +kernel
theorem dX8_tell_143 : decode cX8_tell 143 = .ok (.goto 4, 3) := by decide +kernel
theorem dX8_tell_146 : decode cX8_tell 146 = .ok (.iconst 0, 1) := by decide +kernel
theorem dX8_tell_147 : decode cX8_tell 147 = .ok (.istore_n 3, 1) := by decide +kernel
theorem dX8_tell_148 : decode cX8_tell 148 = .ok (.goto 80, 3) := by decide +kernel
theorem dX8_tell_151 : decode cX8_tell 151 = .ok (.aload_n 1, 1) := by decide +kernel
theorem dX8_tell_152 : decode cX8_tell 152 = .ok (.getfield 50, 3) := by decide +kernel
theorem dX8_tell_155 : decode cX8_tell 155 = .ok (.iconst 4, 1) := by decide +kernel
theorem dX8_tell_156 : decode cX8_tell 156 = .ok (.if_icmp .ge 15, 3) := by decide +kernel
theorem dX8_tell_159 : decode cX8_tell 159 = .ok (.aload_n 0, 1) := by decide +kernel
theorem dX8_tell_160 : decode cX8_tell 160 = .ok (.aload_n 1, 1) := by decide +kernel
theorem dX8_tell_161 : decode cX8_tell 161 = .ok (.invokevirtual 53, 3) := by decide +kernel
theorem dX8_tell_164 : decode cX8_tell 164 = .ok (.ifCond .eq 7, 3) := by decide +kernel
theorem dX8_tell_167 : decode cX8_tell 167 = .ok (.iconst 1, 1) := by decide +kernel
theorem dX8_tell_168 : decode cX8_tell 168 = .ok (.goto 4, 3) := by decide +kernel
theorem dX8_tell_171 : decode cX8_tell 171 = .ok (.iconst 0, 1) := by decide +kernel
theorem dX8_tell_172 : decode cX8_tell 172 = .ok (.istore_n 3, 1) := by decide +kernel
theorem dX8_tell_173 : decode cX8_tell 173 = .ok (.goto 55, 3) := by decide +kernel
theorem dX8_tell_176 : decode cX8_tell 176 = .ok (.aload_n 1, 1) := by decide +kernel
theorem dX8_tell_177 : decode cX8_tell 177 = .ok (.getfield 56, 3) := by decide +kernel
theorem dX8_tell_180 : decode cX8_tell 180 = .ok (.bipush 6, 2) := by decide +kernel
theorem dX8_tell_182 : decode cX8_tell 182 = .ok (.if_icmp .ge 15, 3) := by decide +kernel
theorem dX8_tell_185 : decode cX8_tell 185 = .ok (.aload_n 0, 1) := by decide +kernel
theorem dX8_tell_186 : decode cX8_tell 186 = .ok (.aload_n 1, 1) := by decide +kernel
theorem dX8_tell_187 : decode cX8_tell 187 = .ok (.invokevirtual 59, 3) := by decide +kernel
theorem dX8_tell_190 : decode cX8_tell 190 = .ok (.ifCond .eq 7, 3) := by decide +kernel
theorem dX8_tell_193 : decode cX8_tell 193 = .ok (.iconst 1, 1) := by decide +kernel
theorem dX8_tell_194 : decode cX8_tell 194 = .ok (.goto 4, 3) := by decide +kernel
theorem dX8_tell_197 : decode cX8_tell 197 = .ok (.iconst 0, 1) := by decide +kernel
theorem dX8_tell_198 : decode cX8_tell 198 = .ok (.istore_n 3, 1) := by decide +kernel
theorem dX8_tell_199 : decode cX8_tell 199 = .ok (.goto 29, 3) := by decide +kernel
theorem dX8_tell_202 : decode cX8_tell 202 = .ok (.aload_n 0, 1) := by decide +kernel
theorem dX8_tell_203 : decode cX8_tell 203 = .ok (.getfield 27, 3) := by decide +kernel
theorem dX8_tell_206 : decode cX8_tell 206 = .ok (.ifCond .ne 15, 3) := by decide +kernel
theorem dX8_tell_209 : decode cX8_tell 209 = .ok (.aload_n 0, 1) := by decide +kernel
theorem dX8_tell_210 : decode cX8_tell 210 = .ok (.aload_n 1, 1) := by decide +kernel
theorem dX8_tell_211 : decode cX8_tell 211 = .ok (.invokevirtual 62, 3) := by decide +kernel
theorem dX8_tell_214 : decode cX8_tell 214 = .ok (.ifCond .eq 7, 3) := by decide +kernel
theorem dX8_tell_217 : decode cX8_tell 217 = .ok (.iconst 1, 1) := by decide +kernel
theorem dX8_tell_218 : decode cX8_tell 218 = .ok (.goto 4, 3) := by decide +kernel
theorem dX8_tell_221 : decode cX8_tell 221 = .ok (.iconst 0, 1) := by decide +kernel
theorem dX8_tell_222 : decode cX8_tell 222 = .ok (.istore_n 3, 1) := by decide +kernel
theorem dX8_tell_223 : decode cX8_tell 223 = .ok (.goto 5, 3) := by decide +kernel
theorem dX8_tell_226 : decode cX8_tell 226 = .ok (.iconst 0, 1) := by decide +kernel
theorem dX8_tell_227 : decode cX8_tell 227 = .ok (.istore_n 3, 1) := by decide +kernel
theorem dX8_tell_228 : decode cX8_tell 228 = .ok (.iload_n 3, 1) := by decide +kernel
theorem dX8_tell_229 : decode cX8_tell 229 = .ok (.ifCond .eq 10, 3) := by decide +kernel
theorem dX8_tell_232 : decode cX8_tell 232 = .ok (.aload_n 0, 1) := by decide +kernel
theorem dX8_tell_233 : decode cX8_tell 233 = .ok (.invokevirtual 65, 3) := by decide +kernel
theorem dX8_tell_236 : decode cX8_tell 236 = .ok (.ifCond .ne 11, 3) := by decide +kernel
theorem dX8_tell_239 : decode cX8_tell 239 = .ok (.bipush (-10), 2) := by decide +kernel
theorem dX8_tell_241 : decode cX8_tell 241 = .ok (.aload_n 0, 1) := by decide +kernel
theorem dX8_tell_242 : decode cX8_tell 242 = .ok (.getfield 69, 3) := by decide +kernel
theorem dX8_tell_245 : decode cX8_tell 245 = .ok (.isub, 1) := by decide +kernel
theorem dX8_tell_246 : decode cX8_tell 246 = .ok (.ireturn, 1) := by decide +kernel
theorem dX8_tell_247 : decode cX8_tell 247 = .ok (.iinc 2 1, 3) := by decide +kernel
theorem dX8_tell_250 : decode cX8_tell 250 = .ok (.goto (-234), 3) := by decide +kernel
theorem dX8_tell_253 : decode cX8_tell 253 = .ok (.bipush (-10), 2) := by decide +kernel
theorem dX8_tell_255 : decode cX8_tell 255 = .ok (.aload_n 0, 1) := by decide +kernel
theorem dX8_tell_256 : decode cX8_tell 256 = .ok (.getfield 69, 3) := by decide +kernel
theorem dX8_tell_259 : decode cX8_tell 259 = .ok (.isub, 1) := by decide +kernel
theorem dX8_tell_260 : decode cX8_tell 260 = .ok (.ireturn, 1) := by decide +kernel
theorem dX8_tellsFields_0 : decode cX8_tellsFields 0 = .ok (.aload_n 0, 1) := by decide +kernel
theorem dX8_tellsFields_1 : decode cX8_tellsFields 1 = .ok (.iconst 1, 1) := by decide +kernel
theorem dX8_tellsFields_2 : decode cX8_tellsFields 2 = .ok (.bipush 8, 2) := by decide +kernel
theorem dX8_tellsFields_4 : decode cX8_tellsFields 4 = .ok (.invokevirtual 72, 3) := by decide +kernel
theorem dX8_tellsFields_7 : decode cX8_tellsFields 7 = .ok (.ifCond .ne 5, 3) := by decide +kernel
theorem dX8_tellsFields_10 : decode cX8_tellsFields 10 = .ok (.iconst 0, 1) := by decide +kernel
theorem dX8_tellsFields_11 : decode cX8_tellsFields 11 = .ok (.ireturn, 1) := by decide +kernel
theorem dX8_tellsFields_12 : decode cX8_tellsFields 12 = .ok (.aload_n 1, 1) := by decide +kernel
theorem dX8_tellsFields_13 : decode cX8_tellsFields 13 = .ok (.aload_n 0, 1) := by decide +kernel
theorem dX8_tellsFields_14 : decode cX8_tellsFields 14 = .ok (.getfield 37, 3) := by decide +kernel
theorem dX8_tellsFields_17 : decode cX8_tellsFields 17 = .ok (.putfield 76, 3) := by decide +kernel
theorem dX8_tellsFields_20 : decode cX8_tellsFields 20 = .ok (.iconst 1, 1) := by decide +kernel
theorem dX8_tellsFields_21 : decode cX8_tellsFields 21 = .ok (.ireturn, 1) := by decide +kernel
theorem dX8_tellsFence_0 : decode cX8_tellsFence 0 = .ok (.aload_n 1, 1) := by decide +kernel
theorem dX8_tellsFence_1 : decode cX8_tellsFence 1 = .ok (.getfield 44, 3) := by decide +kernel
theorem dX8_tellsFence_4 : decode cX8_tellsFence 4 = .ok (.istore_n 2, 1) := by decide +kernel
theorem dX8_tellsFence_5 : decode cX8_tellsFence 5 = .ok (.aload_n 0, 1) := by decide +kernel
theorem dX8_tellsFence_6 : decode cX8_tellsFence 6 = .ok (.iconst 0, 1) := by decide +kernel
theorem dX8_tellsFence_7 : decode cX8_tellsFence 7 = .ok (.aload_n 1, 1) := by decide +kernel
theorem dX8_tellsFence_8 : decode cX8_tellsFence 8 = .ok (.getfield 76, 3) := by decide +kernel
theorem dX8_tellsFence_11 : decode cX8_tellsFence 11 = .ok (.iconst 1, 1) := by decide +kernel
theorem dX8_tellsFence_12 : decode cX8_tellsFence 12 = .ok (.isub, 1) := by decide +kernel
theorem dX8_tellsFence_13 : decode cX8_tellsFence 13 = .ok (.invokevirtual 72, 3) := by decide +kernel
theorem dX8_tellsFence_16 : decode cX8_tellsFence 16 = .ok (.ifCond .ne 5, 3) := by decide +kernel
theorem dX8_tellsFence_19 : decode cX8_tellsFence 19 = .ok (.iconst 0, 1) := by decide +kernel
theorem dX8_tellsFence_20 : decode cX8_tellsFence 20 = .ok (.ireturn, 1) := by decide +kernel
theorem dX8_tellsFence_21 : decode cX8_tellsFence 21 = .ok (.aload_n 1, 1) := by decide +kernel
theorem dX8_tellsFence_22 : decode cX8_tellsFence 22 = .ok (.getfield 79, 3) := by decide +kernel
theorem dX8_tellsFence_25 : decode cX8_tellsFence 25 = .ok (.iload_n 2, 1) := by decide +kernel
theorem dX8_tellsFence_26 : decode cX8_tellsFence 26 = .ok (.aload_n 0, 1) := by decide +kernel
theorem dX8_tellsFence_27 : decode cX8_tellsFence 27 = .ok (.getfield 37, 3) := by decide +kernel
theorem dX8_tellsFence_30 : decode cX8_tellsFence 30 = .ok (.iastore, 1) := by decide +kernel
theorem dX8_tellsFence_31 : decode cX8_tellsFence 31 = .ok (.aload_n 0, 1) := by decide +kernel
theorem dX8_tellsFence_32 : decode cX8_tellsFence 32 = .ok (.iconst 0, 1) := by decide +kernel
theorem dX8_tellsFence_33 : decode cX8_tellsFence 33 = .ok (.aload_n 1, 1) := by decide +kernel
theorem dX8_tellsFence_34 : decode cX8_tellsFence 34 = .ok (.getfield 76, 3) := by decide +kernel
theorem dX8_tellsFence_37 : decode cX8_tellsFence 37 = .ok (.iconst 1, 1) := by decide +kernel
theorem dX8_tellsFence_38 : decode cX8_tellsFence 38 = .ok (.isub, 1) := by decide +kernel
theorem dX8_tellsFence_39 : decode cX8_tellsFence 39 = .ok (.invokevirtual 72, 3) := by decide +kernel
theorem dX8_tellsFence_42 : decode cX8_tellsFence 42 = .ok (.ifCond .eq 16, 3) := by decide +kernel
theorem dX8_tellsFence_45 : decode cX8_tellsFence 45 = .ok (.aload_n 0, 1) := by decide +kernel
theorem dX8_tellsFence_46 : decode cX8_tellsFence 46 = .ok (.getfield 37, 3) := by decide +kernel
theorem dX8_tellsFence_49 : decode cX8_tellsFence 49 = .ok (.aload_n 1, 1) := by decide +kernel
theorem dX8_tellsFence_50 : decode cX8_tellsFence 50 = .ok (.getfield 79, 3) := by decide +kernel
theorem dX8_tellsFence_53 : decode cX8_tellsFence 53 = .ok (.iload_n 2, 1) := by decide +kernel
theorem dX8_tellsFence_54 : decode cX8_tellsFence 54 = .ok (.iaload, 1) := by decide +kernel
theorem dX8_tellsFence_55 : decode cX8_tellsFence 55 = .ok (.if_icmp .ne 5, 3) := by decide +kernel
theorem dX8_tellsFence_58 : decode cX8_tellsFence 58 = .ok (.iconst 0, 1) := by decide +kernel
theorem dX8_tellsFence_59 : decode cX8_tellsFence 59 = .ok (.ireturn, 1) := by decide +kernel
theorem dX8_tellsFence_60 : decode cX8_tellsFence 60 = .ok (.aload_n 1, 1) := by decide +kernel
theorem dX8_tellsFence_61 : decode cX8_tellsFence 61 = .ok (.getfield 82, 3) := by decide +kernel
theorem dX8_tellsFence_64 : decode cX8_tellsFence 64 = .ok (.iload_n 2, 1) := by decide +kernel
theorem dX8_tellsFence_65 : decode cX8_tellsFence 65 = .ok (.aload_n 0, 1) := by decide +kernel
theorem dX8_tellsFence_66 : decode cX8_tellsFence 66 = .ok (.getfield 37, 3) := by decide +kernel
theorem dX8_tellsFence_69 : decode cX8_tellsFence 69 = .ok (.iastore, 1) := by decide +kernel
theorem dX8_tellsFence_70 : decode cX8_tellsFence 70 = .ok (.aload_n 0, 1) := by decide +kernel
theorem dX8_tellsFence_71 : decode cX8_tellsFence 71 = .ok (.iconst 0, 1) := by decide +kernel
theorem dX8_tellsFence_72 : decode cX8_tellsFence 72 = .ok (.bipush 40, 2) := by decide +kernel
theorem dX8_tellsFence_74 : decode cX8_tellsFence 74 = .ok (.invokevirtual 72, 3) := by decide +kernel
theorem dX8_tellsFence_77 : decode cX8_tellsFence 77 = .ok (.ifCond .ne 5, 3) := by decide +kernel
theorem dX8_tellsFence_80 : decode cX8_tellsFence 80 = .ok (.iconst 0, 1) := by decide +kernel
theorem dX8_tellsFence_81 : decode cX8_tellsFence 81 = .ok (.ireturn, 1) := by decide +kernel
theorem dX8_tellsFence_82 : decode cX8_tellsFence 82 = .ok (.aload_n 1, 1) := by decide +kernel
theorem dX8_tellsFence_83 : decode cX8_tellsFence 83 = .ok (.getfield 85, 3) := by decide +kernel
theorem dX8_tellsFence_86 : decode cX8_tellsFence 86 = .ok (.iload_n 2, 1) := by decide +kernel
theorem dX8_tellsFence_87 : decode cX8_tellsFence 87 = .ok (.aload_n 0, 1) := by decide +kernel
theorem dX8_tellsFence_88 : decode cX8_tellsFence 88 = .ok (.getfield 37, 3) := by decide +kernel
theorem dX8_tellsFence_91 : decode cX8_tellsFence 91 = .ok (.iastore, 1) := by decide +kernel
theorem dX8_tellsFence_92 : decode cX8_tellsFence 92 = .ok (.aload_n 1, 1) := by decide +kernel
theorem dX8_tellsFence_93 : decode cX8_tellsFence 93 = .ok (.dup, 1) := by decide +kernel
theorem dX8_tellsFence_94 : decode cX8_tellsFence 94 = .ok (.getfield 44, 3) := by decide +kernel
theorem dX8_tellsFence_97 : decode cX8_tellsFence 97 = .ok (.iconst 1, 1) := by decide +kernel
theorem dX8_tellsFence_98 : decode cX8_tellsFence 98 = .ok (.iadd, 1) := by decide +kernel
theorem dX8_tellsFence_99 : decode cX8_tellsFence 99 = .ok (.putfield 44, 3) := by decide +kernel
theorem dX8_tellsFence_102 : decode cX8_tellsFence 102 = .ok (.iconst 1, 1) := by decide +kernel
theorem dX8_tellsFence_103 : decode cX8_tellsFence 103 = .ok (.ireturn, 1) := by decide +kernel
theorem dX8_tellsKind_0 : decode cX8_tellsKind 0 = .ok (.aload_n 1, 1) := by decide +kernel
theorem dX8_tellsKind_1 : decode cX8_tellsKind 1 = .ok (.getfield 50, 3) := by decide +kernel
theorem dX8_tellsKind_4 : decode cX8_tellsKind 4 = .ok (.istore_n 2, 1) := by decide +kernel
theorem dX8_tellsKind_5 : decode cX8_tellsKind 5 = .ok (.aload_n 0, 1) := by decide +kernel
theorem dX8_tellsKind_6 : decode cX8_tellsKind 6 = .ok (.iconst 0, 1) := by decide +kernel
theorem dX8_tellsKind_7 : decode cX8_tellsKind 7 = .ok (.bipush 6, 2) := by decide +kernel
theorem dX8_tellsKind_9 : decode cX8_tellsKind 9 = .ok (.invokevirtual 72, 3) := by decide +kernel
theorem dX8_tellsKind_12 : decode cX8_tellsKind 12 = .ok (.ifCond .ne 5, 3) := by decide +kernel
theorem dX8_tellsKind_15 : decode cX8_tellsKind 15 = .ok (.iconst 0, 1) := by decide +kernel
theorem dX8_tellsKind_16 : decode cX8_tellsKind 16 = .ok (.ireturn, 1) := by decide +kernel
theorem dX8_tellsKind_17 : decode cX8_tellsKind 17 = .ok (.aload_n 1, 1) := by decide +kernel
theorem dX8_tellsKind_18 : decode cX8_tellsKind 18 = .ok (.getfield 88, 3) := by decide +kernel
theorem dX8_tellsKind_21 : decode cX8_tellsKind 21 = .ok (.iload_n 2, 1) := by decide +kernel
theorem dX8_tellsKind_22 : decode cX8_tellsKind 22 = .ok (.aload_n 0, 1) := by decide +kernel
theorem dX8_tellsKind_23 : decode cX8_tellsKind 23 = .ok (.getfield 37, 3) := by decide +kernel
theorem dX8_tellsKind_26 : decode cX8_tellsKind 26 = .ok (.iconst 3, 1) := by decide +kernel
theorem dX8_tellsKind_27 : decode cX8_tellsKind 27 = .ok (.isub, 1) := by decide +kernel
theorem dX8_tellsKind_28 : decode cX8_tellsKind 28 = .ok (.iastore, 1) := by decide +kernel
theorem dX8_tellsKind_29 : decode cX8_tellsKind 29 = .ok (.aload_n 0, 1) := by decide +kernel
theorem dX8_tellsKind_30 : decode cX8_tellsKind 30 = .ok (.iconst 0, 1) := by decide +kernel
theorem dX8_tellsKind_31 : decode cX8_tellsKind 31 = .ok (.bipush 9, 2) := by decide +kernel
theorem dX8_tellsKind_33 : decode cX8_tellsKind 33 = .ok (.invokevirtual 72, 3) := by decide +kernel
theorem dX8_tellsKind_36 : decode cX8_tellsKind 36 = .ok (.ifCond .ne 5, 3) := by decide +kernel
theorem dX8_tellsKind_39 : decode cX8_tellsKind 39 = .ok (.iconst 0, 1) := by decide +kernel
theorem dX8_tellsKind_40 : decode cX8_tellsKind 40 = .ok (.ireturn, 1) := by decide +kernel
theorem dX8_tellsKind_41 : decode cX8_tellsKind 41 = .ok (.aload_n 1, 1) := by decide +kernel
theorem dX8_tellsKind_42 : decode cX8_tellsKind 42 = .ok (.getfield 91, 3) := by decide +kernel
theorem dX8_tellsKind_45 : decode cX8_tellsKind 45 = .ok (.iload_n 2, 1) := by decide +kernel
theorem dX8_tellsKind_46 : decode cX8_tellsKind 46 = .ok (.aload_n 0, 1) := by decide +kernel
theorem dX8_tellsKind_47 : decode cX8_tellsKind 47 = .ok (.getfield 37, 3) := by decide +kernel
theorem dX8_tellsKind_50 : decode cX8_tellsKind 50 = .ok (.iastore, 1) := by decide +kernel
theorem dX8_tellsKind_51 : decode cX8_tellsKind 51 = .ok (.aload_n 1, 1) := by decide +kernel
theorem dX8_tellsKind_52 : decode cX8_tellsKind 52 = .ok (.dup, 1) := by decide +kernel
theorem dX8_tellsKind_53 : decode cX8_tellsKind 53 = .ok (.getfield 50, 3) := by decide +kernel
theorem dX8_tellsKind_56 : decode cX8_tellsKind 56 = .ok (.iconst 1, 1) := by decide +kernel
theorem dX8_tellsKind_57 : decode cX8_tellsKind 57 = .ok (.iadd, 1) := by decide +kernel
theorem dX8_tellsKind_58 : decode cX8_tellsKind 58 = .ok (.putfield 50, 3) := by decide +kernel
theorem dX8_tellsKind_61 : decode cX8_tellsKind 61 = .ok (.iconst 1, 1) := by decide +kernel
theorem dX8_tellsKind_62 : decode cX8_tellsKind 62 = .ok (.ireturn, 1) := by decide +kernel
theorem dX8_tellsBeast_0 : decode cX8_tellsBeast 0 = .ok (.aload_n 1, 1) := by decide +kernel
theorem dX8_tellsBeast_1 : decode cX8_tellsBeast 1 = .ok (.getfield 56, 3) := by decide +kernel
theorem dX8_tellsBeast_4 : decode cX8_tellsBeast 4 = .ok (.istore_n 2, 1) := by decide +kernel
theorem dX8_tellsBeast_5 : decode cX8_tellsBeast 5 = .ok (.aload_n 0, 1) := by decide +kernel
theorem dX8_tellsBeast_6 : decode cX8_tellsBeast 6 = .ok (.iconst 0, 1) := by decide +kernel
theorem dX8_tellsBeast_7 : decode cX8_tellsBeast 7 = .ok (.aload_n 1, 1) := by decide +kernel
theorem dX8_tellsBeast_8 : decode cX8_tellsBeast 8 = .ok (.getfield 50, 3) := by decide +kernel
theorem dX8_tellsBeast_11 : decode cX8_tellsBeast 11 = .ok (.iconst 1, 1) := by decide +kernel
theorem dX8_tellsBeast_12 : decode cX8_tellsBeast 12 = .ok (.isub, 1) := by decide +kernel
theorem dX8_tellsBeast_13 : decode cX8_tellsBeast 13 = .ok (.invokevirtual 72, 3) := by decide +kernel
theorem dX8_tellsBeast_16 : decode cX8_tellsBeast 16 = .ok (.ifCond .ne 5, 3) := by decide +kernel
theorem dX8_tellsBeast_19 : decode cX8_tellsBeast 19 = .ok (.iconst 0, 1) := by decide +kernel
theorem dX8_tellsBeast_20 : decode cX8_tellsBeast 20 = .ok (.ireturn, 1) := by decide +kernel
theorem dX8_tellsBeast_21 : decode cX8_tellsBeast 21 = .ok (.aload_n 1, 1) := by decide +kernel
theorem dX8_tellsBeast_22 : decode cX8_tellsBeast 22 = .ok (.getfield 94, 3) := by decide +kernel
theorem dX8_tellsBeast_25 : decode cX8_tellsBeast 25 = .ok (.iload_n 2, 1) := by decide +kernel
theorem dX8_tellsBeast_26 : decode cX8_tellsBeast 26 = .ok (.aload_n 0, 1) := by decide +kernel
theorem dX8_tellsBeast_27 : decode cX8_tellsBeast 27 = .ok (.getfield 37, 3) := by decide +kernel
theorem dX8_tellsBeast_30 : decode cX8_tellsBeast 30 = .ok (.iastore, 1) := by decide +kernel
theorem dX8_tellsBeast_31 : decode cX8_tellsBeast 31 = .ok (.aload_n 0, 1) := by decide +kernel
theorem dX8_tellsBeast_32 : decode cX8_tellsBeast 32 = .ok (.iconst 0, 1) := by decide +kernel
theorem dX8_tellsBeast_33 : decode cX8_tellsBeast 33 = .ok (.aload_n 1, 1) := by decide +kernel
theorem dX8_tellsBeast_34 : decode cX8_tellsBeast 34 = .ok (.getfield 76, 3) := by decide +kernel
theorem dX8_tellsBeast_37 : decode cX8_tellsBeast 37 = .ok (.iconst 1, 1) := by decide +kernel
theorem dX8_tellsBeast_38 : decode cX8_tellsBeast 38 = .ok (.isub, 1) := by decide +kernel
theorem dX8_tellsBeast_39 : decode cX8_tellsBeast 39 = .ok (.invokevirtual 72, 3) := by decide +kernel
theorem dX8_tellsBeast_42 : decode cX8_tellsBeast 42 = .ok (.ifCond .ne 5, 3) := by decide +kernel
theorem dX8_tellsBeast_45 : decode cX8_tellsBeast 45 = .ok (.iconst 0, 1) := by decide +kernel
theorem dX8_tellsBeast_46 : decode cX8_tellsBeast 46 = .ok (.ireturn, 1) := by decide +kernel
theorem dX8_tellsBeast_47 : decode cX8_tellsBeast 47 = .ok (.aload_n 1, 1) := by decide +kernel
theorem dX8_tellsBeast_48 : decode cX8_tellsBeast 48 = .ok (.getfield 97, 3) := by decide +kernel
theorem dX8_tellsBeast_51 : decode cX8_tellsBeast 51 = .ok (.iload_n 2, 1) := by decide +kernel
theorem dX8_tellsBeast_52 : decode cX8_tellsBeast 52 = .ok (.aload_n 0, 1) := by decide +kernel
theorem dX8_tellsBeast_53 : decode cX8_tellsBeast 53 = .ok (.getfield 37, 3) := by decide +kernel
theorem dX8_tellsBeast_56 : decode cX8_tellsBeast 56 = .ok (.iastore, 1) := by decide +kernel
theorem dX8_tellsBeast_57 : decode cX8_tellsBeast 57 = .ok (.aload_n 1, 1) := by decide +kernel
theorem dX8_tellsBeast_58 : decode cX8_tellsBeast 58 = .ok (.dup, 1) := by decide +kernel
theorem dX8_tellsBeast_59 : decode cX8_tellsBeast 59 = .ok (.getfield 56, 3) := by decide +kernel
theorem dX8_tellsBeast_62 : decode cX8_tellsBeast 62 = .ok (.iconst 1, 1) := by decide +kernel
theorem dX8_tellsBeast_63 : decode cX8_tellsBeast 63 = .ok (.iadd, 1) := by decide +kernel
theorem dX8_tellsBeast_64 : decode cX8_tellsBeast 64 = .ok (.putfield 56, 3) := by decide +kernel
theorem dX8_tellsBeast_67 : decode cX8_tellsBeast 67 = .ok (.iconst 1, 1) := by decide +kernel
theorem dX8_tellsBeast_68 : decode cX8_tellsBeast 68 = .ok (.ireturn, 1) := by decide +kernel
theorem dX8_tellsWet_0 : decode cX8_tellsWet 0 = .ok (.aload_n 0, 1) := by decide +kernel
theorem dX8_tellsWet_1 : decode cX8_tellsWet 1 = .ok (.iconst 1, 1) := by decide +kernel
theorem dX8_tellsWet_2 : decode cX8_tellsWet 2 = .ok (.putfield 27, 3) := by decide +kernel
theorem dX8_tellsWet_5 : decode cX8_tellsWet 5 = .ok (.aload_n 0, 1) := by decide +kernel
theorem dX8_tellsWet_6 : decode cX8_tellsWet 6 = .ok (.iconst 0, 1) := by decide +kernel
theorem dX8_tellsWet_7 : decode cX8_tellsWet 7 = .ok (.bipush 9, 2) := by decide +kernel
theorem dX8_tellsWet_9 : decode cX8_tellsWet 9 = .ok (.invokevirtual 72, 3) := by decide +kernel
theorem dX8_tellsWet_12 : decode cX8_tellsWet 12 = .ok (.ifCond .ne 5, 3) := by decide +kernel
theorem dX8_tellsWet_15 : decode cX8_tellsWet 15 = .ok (.iconst 0, 1) := by decide +kernel
theorem dX8_tellsWet_16 : decode cX8_tellsWet 16 = .ok (.ireturn, 1) := by decide +kernel
theorem dX8_tellsWet_17 : decode cX8_tellsWet 17 = .ok (.aload_n 1, 1) := by decide +kernel
theorem dX8_tellsWet_18 : decode cX8_tellsWet 18 = .ok (.aload_n 0, 1) := by decide +kernel
theorem dX8_tellsWet_19 : decode cX8_tellsWet 19 = .ok (.getfield 37, 3) := by decide +kernel
theorem dX8_tellsWet_22 : decode cX8_tellsWet 22 = .ok (.putfield 100, 3) := by decide +kernel
theorem dX8_tellsWet_25 : decode cX8_tellsWet 25 = .ok (.iconst 1, 1) := by decide +kernel
theorem dX8_tellsWet_26 : decode cX8_tellsWet 26 = .ok (.ireturn, 1) := by decide +kernel
theorem dX8_number_0 : decode cX8_number 0 = .ok (.aload_n 0, 1) := by decide +kernel
theorem dX8_number_1 : decode cX8_number 1 = .ok (.invokevirtual 31, 3) := by decide +kernel
theorem dX8_number_4 : decode cX8_number 4 = .ok (.aload_n 0, 1) := by decide +kernel
theorem dX8_number_5 : decode cX8_number 5 = .ok (.getfield 34, 3) := by decide +kernel
theorem dX8_number_8 : decode cX8_number 8 = .ok (.iconst 2, 1) := by decide +kernel
theorem dX8_number_9 : decode cX8_number 9 = .ok (.if_icmp .ne 23, 3) := by decide +kernel
theorem dX8_number_12 : decode cX8_number 12 = .ok (.aload_n 0, 1) := by decide +kernel
theorem dX8_number_13 : decode cX8_number 13 = .ok (.getfield 37, 3) := by decide +kernel
theorem dX8_number_16 : decode cX8_number 16 = .ok (.iload_n 1, 1) := by decide +kernel
theorem dX8_number_17 : decode cX8_number 17 = .ok (.if_icmp .lt 15, 3) := by decide +kernel
theorem dX8_number_20 : decode cX8_number 20 = .ok (.aload_n 0, 1) := by decide +kernel
theorem dX8_number_21 : decode cX8_number 21 = .ok (.getfield 37, 3) := by decide +kernel
theorem dX8_number_24 : decode cX8_number 24 = .ok (.iload_n 2, 1) := by decide +kernel
theorem dX8_number_25 : decode cX8_number 25 = .ok (.if_icmp .gt 7, 3) := by decide +kernel
theorem dX8_number_28 : decode cX8_number 28 = .ok (.iconst 1, 1) := by decide +kernel
theorem dX8_number_29 : decode cX8_number 29 = .ok (.goto 4, 3) := by decide +kernel
theorem dX8_number_32 : decode cX8_number 32 = .ok (.iconst 0, 1) := by decide +kernel
theorem dX8_number_33 : decode cX8_number 33 = .ok (.ireturn, 1) := by decide +kernel
theorem dX8_stops_0 : decode cX8_stops 0 = .ok (.aload_n 0, 1) := by decide +kernel
theorem dX8_stops_1 : decode cX8_stops 1 = .ok (.invokevirtual 31, 3) := by decide +kernel
theorem dX8_stops_4 : decode cX8_stops 4 = .ok (.aload_n 0, 1) := by decide +kernel
theorem dX8_stops_5 : decode cX8_stops 5 = .ok (.getfield 34, 3) := by decide +kernel
theorem dX8_stops_8 : decode cX8_stops 8 = .ok (.iconst 3, 1) := by decide +kernel
theorem dX8_stops_9 : decode cX8_stops 9 = .ok (.if_icmp .ne 7, 3) := by decide +kernel
theorem dX8_stops_12 : decode cX8_stops 12 = .ok (.iconst 1, 1) := by decide +kernel
theorem dX8_stops_13 : decode cX8_stops 13 = .ok (.goto 4, 3) := by decide +kernel
theorem dX8_stops_16 : decode cX8_stops 16 = .ok (.iconst 0, 1) := by decide +kernel
theorem dX8_stops_17 : decode cX8_stops 17 = .ok (.ireturn, 1) := by decide +kernel
theorem dX8_step_0 : decode cX8_step 0 = .ok (.aload_n 0, 1) := by decide +kernel
theorem dX8_step_1 : decode cX8_step 1 = .ok (.getfield 24, 3) := by decide +kernel
theorem dX8_step_4 : decode cX8_step 4 = .ok (.aload_n 0, 1) := by decide +kernel
theorem dX8_step_5 : decode cX8_step 5 = .ok (.getfield 15, 3) := by decide +kernel
theorem dX8_step_8 : decode cX8_step 8 = .ok (.if_icmp .ge 30, 3) := by decide +kernel
theorem dX8_step_11 : decode cX8_step 11 = .ok (.aload_n 0, 1) := by decide +kernel
theorem dX8_step_12 : decode cX8_step 12 = .ok (.getfield 9, 3) := by decide +kernel
theorem dX8_step_15 : decode cX8_step 15 = .ok (.aload_n 0, 1) := by decide +kernel
theorem dX8_step_16 : decode cX8_step 16 = .ok (.getfield 24, 3) := by decide +kernel
theorem dX8_step_19 : decode cX8_step 19 = .ok (.iaload, 1) := by decide +kernel
theorem dX8_step_20 : decode cX8_step 20 = .ok (.bipush 32, 2) := by decide +kernel
theorem dX8_step_22 : decode cX8_step 22 = .ok (.if_icmp .ne 16, 3) := by decide +kernel
theorem dX8_step_25 : decode cX8_step 25 = .ok (.aload_n 0, 1) := by decide +kernel
theorem dX8_step_26 : decode cX8_step 26 = .ok (.dup, 1) := by decide +kernel
theorem dX8_step_27 : decode cX8_step 27 = .ok (.getfield 24, 3) := by decide +kernel
theorem dX8_step_30 : decode cX8_step 30 = .ok (.iconst 1, 1) := by decide +kernel
theorem dX8_step_31 : decode cX8_step 31 = .ok (.iadd, 1) := by decide +kernel
theorem dX8_step_32 : decode cX8_step 32 = .ok (.putfield 24, 3) := by decide +kernel
theorem dX8_step_35 : decode cX8_step 35 = .ok (.goto (-35), 3) := by decide +kernel
theorem dX8_step_38 : decode cX8_step 38 = .ok (.aload_n 0, 1) := by decide +kernel
theorem dX8_step_39 : decode cX8_step 39 = .ok (.aload_n 0, 1) := by decide +kernel
theorem dX8_step_40 : decode cX8_step 40 = .ok (.getfield 24, 3) := by decide +kernel
theorem dX8_step_43 : decode cX8_step 43 = .ok (.putfield 69, 3) := by decide +kernel
theorem dX8_step_46 : decode cX8_step 46 = .ok (.aload_n 0, 1) := by decide +kernel
theorem dX8_step_47 : decode cX8_step 47 = .ok (.getfield 24, 3) := by decide +kernel
theorem dX8_step_50 : decode cX8_step 50 = .ok (.aload_n 0, 1) := by decide +kernel
theorem dX8_step_51 : decode cX8_step 51 = .ok (.getfield 15, 3) := by decide +kernel
theorem dX8_step_54 : decode cX8_step 54 = .ok (.if_icmp .lt 11, 3) := by decide +kernel
theorem dX8_step_57 : decode cX8_step 57 = .ok (.aload_n 0, 1) := by decide +kernel
theorem dX8_step_58 : decode cX8_step 58 = .ok (.iconst 0, 1) := by decide +kernel
theorem dX8_step_59 : decode cX8_step 59 = .ok (.putfield 34, 3) := by decide +kernel
theorem dX8_step_62 : decode cX8_step 62 = .ok (.goto 80, 3) := by decide +kernel
theorem dX8_step_65 : decode cX8_step 65 = .ok (.aload_n 0, 1) := by decide +kernel
theorem dX8_step_66 : decode cX8_step 66 = .ok (.getfield 9, 3) := by decide +kernel
theorem dX8_step_69 : decode cX8_step 69 = .ok (.aload_n 0, 1) := by decide +kernel
theorem dX8_step_70 : decode cX8_step 70 = .ok (.getfield 24, 3) := by decide +kernel
theorem dX8_step_73 : decode cX8_step 73 = .ok (.iaload, 1) := by decide +kernel
theorem dX8_step_74 : decode cX8_step 74 = .ok (.invokestatic 103, 3) := by decide +kernel
theorem dX8_step_77 : decode cX8_step 77 = .ok (.ifCond .eq 10, 3) := by decide +kernel
theorem dX8_step_80 : decode cX8_step 80 = .ok (.aload_n 0, 1) := by decide +kernel
theorem dX8_step_81 : decode cX8_step 81 = .ok (.invokevirtual 107, 3) := by decide +kernel
theorem dX8_step_84 : decode cX8_step 84 = .ok (.goto 58, 3) := by decide +kernel
theorem dX8_step_87 : decode cX8_step 87 = .ok (.aload_n 0, 1) := by decide +kernel
theorem dX8_step_88 : decode cX8_step 88 = .ok (.getfield 9, 3) := by decide +kernel
theorem dX8_step_91 : decode cX8_step 91 = .ok (.aload_n 0, 1) := by decide +kernel
theorem dX8_step_92 : decode cX8_step 92 = .ok (.getfield 24, 3) := by decide +kernel
theorem dX8_step_95 : decode cX8_step 95 = .ok (.iaload, 1) := by decide +kernel
theorem dX8_step_96 : decode cX8_step 96 = .ok (.invokestatic 110, 3) := by decide +kernel
theorem dX8_step_99 : decode cX8_step 99 = .ok (.ifCond .eq 10, 3) := by decide +kernel
theorem dX8_step_102 : decode cX8_step 102 = .ok (.aload_n 0, 1) := by decide +kernel
theorem dX8_step_103 : decode cX8_step 103 = .ok (.invokevirtual 113, 3) := by decide +kernel
theorem dX8_step_106 : decode cX8_step 106 = .ok (.goto 36, 3) := by decide +kernel
theorem dX8_step_109 : decode cX8_step 109 = .ok (.aload_n 0, 1) := by decide +kernel
theorem dX8_step_110 : decode cX8_step 110 = .ok (.aload_n 0, 1) := by decide +kernel
theorem dX8_step_111 : decode cX8_step 111 = .ok (.getfield 9, 3) := by decide +kernel
theorem dX8_step_114 : decode cX8_step 114 = .ok (.aload_n 0, 1) := by decide +kernel
theorem dX8_step_115 : decode cX8_step 115 = .ok (.getfield 24, 3) := by decide +kernel
theorem dX8_step_118 : decode cX8_step 118 = .ok (.iaload, 1) := by decide +kernel
theorem dX8_step_119 : decode cX8_step 119 = .ok (.bipush 59, 2) := by decide +kernel
theorem dX8_step_121 : decode cX8_step 121 = .ok (.if_icmp .ne 7, 3) := by decide +kernel
theorem dX8_step_124 : decode cX8_step 124 = .ok (.iconst 3, 1) := by decide +kernel
theorem dX8_step_125 : decode cX8_step 125 = .ok (.goto 4, 3) := by decide +kernel
theorem dX8_step_128 : decode cX8_step 128 = .ok (.iconst 4, 1) := by decide +kernel
theorem dX8_step_129 : decode cX8_step 129 = .ok (.putfield 34, 3) := by decide +kernel
theorem dX8_step_132 : decode cX8_step 132 = .ok (.aload_n 0, 1) := by decide +kernel
theorem dX8_step_133 : decode cX8_step 133 = .ok (.dup, 1) := by decide +kernel
theorem dX8_step_134 : decode cX8_step 134 = .ok (.getfield 24, 3) := by decide +kernel
theorem dX8_step_137 : decode cX8_step 137 = .ok (.iconst 1, 1) := by decide +kernel
theorem dX8_step_138 : decode cX8_step 138 = .ok (.iadd, 1) := by decide +kernel
theorem dX8_step_139 : decode cX8_step 139 = .ok (.putfield 24, 3) := by decide +kernel
theorem dX8_step_142 : decode cX8_step 142 = .ok (.return_, 1) := by decide +kernel
theorem dX8_stepLetters_0 : decode cX8_stepLetters 0 = .ok (.aload_n 0, 1) := by decide +kernel
theorem dX8_stepLetters_1 : decode cX8_stepLetters 1 = .ok (.iconst 1, 1) := by decide +kernel
theorem dX8_stepLetters_2 : decode cX8_stepLetters 2 = .ok (.putfield 34, 3) := by decide +kernel
theorem dX8_stepLetters_5 : decode cX8_stepLetters 5 = .ok (.aload_n 0, 1) := by decide +kernel
theorem dX8_stepLetters_6 : decode cX8_stepLetters 6 = .ok (.aload_n 0, 1) := by decide +kernel
theorem dX8_stepLetters_7 : decode cX8_stepLetters 7 = .ok (.getfield 9, 3) := by decide +kernel
theorem dX8_stepLetters_10 : decode cX8_stepLetters 10 = .ok (.aload_n 0, 1) := by decide +kernel
theorem dX8_stepLetters_11 : decode cX8_stepLetters 11 = .ok (.getfield 69, 3) := by decide +kernel
theorem dX8_stepLetters_14 : decode cX8_stepLetters 14 = .ok (.iaload, 1) := by decide +kernel
theorem dX8_stepLetters_15 : decode cX8_stepLetters 15 = .ok (.putfield 37, 3) := by decide +kernel
theorem dX8_stepLetters_18 : decode cX8_stepLetters 18 = .ok (.aload_n 0, 1) := by decide +kernel
theorem dX8_stepLetters_19 : decode cX8_stepLetters 19 = .ok (.dup, 1) := by decide +kernel
theorem dX8_stepLetters_20 : decode cX8_stepLetters 20 = .ok (.getfield 24, 3) := by decide +kernel
theorem dX8_stepLetters_23 : decode cX8_stepLetters 23 = .ok (.iconst 1, 1) := by decide +kernel
theorem dX8_stepLetters_24 : decode cX8_stepLetters 24 = .ok (.iadd, 1) := by decide +kernel
theorem dX8_stepLetters_25 : decode cX8_stepLetters 25 = .ok (.putfield 24, 3) := by decide +kernel
theorem dX8_stepLetters_28 : decode cX8_stepLetters 28 = .ok (.aload_n 0, 1) := by decide +kernel
theorem dX8_stepLetters_29 : decode cX8_stepLetters 29 = .ok (.getfield 24, 3) := by decide +kernel
theorem dX8_stepLetters_32 : decode cX8_stepLetters 32 = .ok (.aload_n 0, 1) := by decide +kernel
theorem dX8_stepLetters_33 : decode cX8_stepLetters 33 = .ok (.getfield 15, 3) := by decide +kernel
theorem dX8_stepLetters_36 : decode cX8_stepLetters 36 = .ok (.if_icmp .ge 36, 3) := by decide +kernel
theorem dX8_stepLetters_39 : decode cX8_stepLetters 39 = .ok (.aload_n 0, 1) := by decide +kernel
theorem dX8_stepLetters_40 : decode cX8_stepLetters 40 = .ok (.getfield 9, 3) := by decide +kernel
theorem dX8_stepLetters_43 : decode cX8_stepLetters 43 = .ok (.aload_n 0, 1) := by decide +kernel
theorem dX8_stepLetters_44 : decode cX8_stepLetters 44 = .ok (.getfield 24, 3) := by decide +kernel
theorem dX8_stepLetters_47 : decode cX8_stepLetters 47 = .ok (.iaload, 1) := by decide +kernel
theorem dX8_stepLetters_48 : decode cX8_stepLetters 48 = .ok (.invokestatic 103, 3) := by decide +kernel
theorem dX8_stepLetters_51 : decode cX8_stepLetters 51 = .ok (.ifCond .eq 21, 3) := by decide +kernel
theorem dX8_stepLetters_54 : decode cX8_stepLetters 54 = .ok (.aload_n 0, 1) := by decide +kernel
theorem dX8_stepLetters_55 : decode cX8_stepLetters 55 = .ok (.iconst 0, 1) := by decide +kernel
theorem dX8_stepLetters_56 : decode cX8_stepLetters 56 = .ok (.putfield 37, 3) := by decide +kernel
theorem dX8_stepLetters_59 : decode cX8_stepLetters 59 = .ok (.aload_n 0, 1) := by decide +kernel
theorem dX8_stepLetters_60 : decode cX8_stepLetters 60 = .ok (.dup, 1) := by decide +kernel
theorem dX8_stepLetters_61 : decode cX8_stepLetters 61 = .ok (.getfield 24, 3) := by decide +kernel
theorem dX8_stepLetters_64 : decode cX8_stepLetters 64 = .ok (.iconst 1, 1) := by decide +kernel
theorem dX8_stepLetters_65 : decode cX8_stepLetters 65 = .ok (.iadd, 1) := by decide +kernel
theorem dX8_stepLetters_66 : decode cX8_stepLetters 66 = .ok (.putfield 24, 3) := by decide +kernel
theorem dX8_stepLetters_69 : decode cX8_stepLetters 69 = .ok (.goto (-41), 3) := by decide +kernel
theorem dX8_stepLetters_72 : decode cX8_stepLetters 72 = .ok (.return_, 1) := by decide +kernel
theorem dX8_stepNumber_0 : decode cX8_stepNumber 0 = .ok (.aload_n 0, 1) := by decide +kernel
theorem dX8_stepNumber_1 : decode cX8_stepNumber 1 = .ok (.iconst 0, 1) := by decide +kernel
theorem dX8_stepNumber_2 : decode cX8_stepNumber 2 = .ok (.putfield 37, 3) := by decide +kernel
theorem dX8_stepNumber_5 : decode cX8_stepNumber 5 = .ok (.aload_n 0, 1) := by decide +kernel
theorem dX8_stepNumber_6 : decode cX8_stepNumber 6 = .ok (.getfield 24, 3) := by decide +kernel
theorem dX8_stepNumber_9 : decode cX8_stepNumber 9 = .ok (.aload_n 0, 1) := by decide +kernel
theorem dX8_stepNumber_10 : decode cX8_stepNumber 10 = .ok (.getfield 15, 3) := by decide +kernel
theorem dX8_stepNumber_13 : decode cX8_stepNumber 13 = .ok (.if_icmp .ge 60, 3) := by decide +kernel
theorem dX8_stepNumber_16 : decode cX8_stepNumber 16 = .ok (.aload_n 0, 1) := by decide +kernel
theorem dX8_stepNumber_17 : decode cX8_stepNumber 17 = .ok (.getfield 9, 3) := by decide +kernel
theorem dX8_stepNumber_20 : decode cX8_stepNumber 20 = .ok (.aload_n 0, 1) := by decide +kernel
theorem dX8_stepNumber_21 : decode cX8_stepNumber 21 = .ok (.getfield 24, 3) := by decide +kernel
theorem dX8_stepNumber_24 : decode cX8_stepNumber 24 = .ok (.iaload, 1) := by decide +kernel
theorem dX8_stepNumber_25 : decode cX8_stepNumber 25 = .ok (.invokestatic 110, 3) := by decide +kernel
theorem dX8_stepNumber_28 : decode cX8_stepNumber 28 = .ok (.ifCond .eq 45, 3) := by decide +kernel
theorem dX8_stepNumber_31 : decode cX8_stepNumber 31 = .ok (.aload_n 0, 1) := by decide +kernel
theorem dX8_stepNumber_32 : decode cX8_stepNumber 32 = .ok (.bipush 100, 2) := by decide +kernel
theorem dX8_stepNumber_34 : decode cX8_stepNumber 34 = .ok (.aload_n 0, 1) := by decide +kernel
theorem dX8_stepNumber_35 : decode cX8_stepNumber 35 = .ok (.getfield 37, 3) := by decide +kernel
theorem dX8_stepNumber_38 : decode cX8_stepNumber 38 = .ok (.bipush 10, 2) := by decide +kernel
theorem dX8_stepNumber_40 : decode cX8_stepNumber 40 = .ok (.imul, 1) := by decide +kernel
theorem dX8_stepNumber_41 : decode cX8_stepNumber 41 = .ok (.aload_n 0, 1) := by decide +kernel
theorem dX8_stepNumber_42 : decode cX8_stepNumber 42 = .ok (.getfield 9, 3) := by decide +kernel
theorem dX8_stepNumber_45 : decode cX8_stepNumber 45 = .ok (.aload_n 0, 1) := by decide +kernel
theorem dX8_stepNumber_46 : decode cX8_stepNumber 46 = .ok (.getfield 24, 3) := by decide +kernel
theorem dX8_stepNumber_49 : decode cX8_stepNumber 49 = .ok (.iaload, 1) := by decide +kernel
theorem dX8_stepNumber_50 : decode cX8_stepNumber 50 = .ok (.iadd, 1) := by decide +kernel
theorem dX8_stepNumber_51 : decode cX8_stepNumber 51 = .ok (.bipush 48, 2) := by decide +kernel
theorem dX8_stepNumber_53 : decode cX8_stepNumber 53 = .ok (.isub, 1) := by decide +kernel
theorem dX8_stepNumber_54 : decode cX8_stepNumber 54 = .ok (.invokestatic 116, 3) := by decide +kernel
theorem dX8_stepNumber_57 : decode cX8_stepNumber 57 = .ok (.putfield 37, 3) := by decide +kernel
theorem dX8_stepNumber_60 : decode cX8_stepNumber 60 = .ok (.aload_n 0, 1) := by decide +kernel
theorem dX8_stepNumber_61 : decode cX8_stepNumber 61 = .ok (.dup, 1) := by decide +kernel
theorem dX8_stepNumber_62 : decode cX8_stepNumber 62 = .ok (.getfield 24, 3) := by decide +kernel
theorem dX8_stepNumber_65 : decode cX8_stepNumber 65 = .ok (.iconst 1, 1) := by decide +kernel
theorem dX8_stepNumber_66 : decode cX8_stepNumber 66 = .ok (.iadd, 1) := by decide +kernel
theorem dX8_stepNumber_67 : decode cX8_stepNumber 67 = .ok (.putfield 24, 3) := by decide +kernel
theorem dX8_stepNumber_70 : decode cX8_stepNumber 70 = .ok (.goto (-65), 3) := by decide +kernel
theorem dX8_stepNumber_73 : decode cX8_stepNumber 73 = .ok (.aload_n 0, 1) := by decide +kernel
theorem dX8_stepNumber_74 : decode cX8_stepNumber 74 = .ok (.getfield 9, 3) := by decide +kernel
theorem dX8_stepNumber_77 : decode cX8_stepNumber 77 = .ok (.aload_n 0, 1) := by decide +kernel
theorem dX8_stepNumber_78 : decode cX8_stepNumber 78 = .ok (.getfield 69, 3) := by decide +kernel
theorem dX8_stepNumber_81 : decode cX8_stepNumber 81 = .ok (.iaload, 1) := by decide +kernel
theorem dX8_stepNumber_82 : decode cX8_stepNumber 82 = .ok (.bipush 48, 2) := by decide +kernel
theorem dX8_stepNumber_84 : decode cX8_stepNumber 84 = .ok (.if_icmp .ne 20, 3) := by decide +kernel
theorem dX8_stepNumber_87 : decode cX8_stepNumber 87 = .ok (.aload_n 0, 1) := by decide +kernel
theorem dX8_stepNumber_88 : decode cX8_stepNumber 88 = .ok (.getfield 24, 3) := by decide +kernel
theorem dX8_stepNumber_91 : decode cX8_stepNumber 91 = .ok (.aload_n 0, 1) := by decide +kernel
theorem dX8_stepNumber_92 : decode cX8_stepNumber 92 = .ok (.getfield 69, 3) := by decide +kernel
theorem dX8_stepNumber_95 : decode cX8_stepNumber 95 = .ok (.isub, 1) := by decide +kernel
theorem dX8_stepNumber_96 : decode cX8_stepNumber 96 = .ok (.iconst 1, 1) := by decide +kernel
theorem dX8_stepNumber_97 : decode cX8_stepNumber 97 = .ok (.if_icmp .le 7, 3) := by decide +kernel
theorem dX8_stepNumber_100 : decode cX8_stepNumber 100 = .ok (.iconst 1, 1) := by decide +kernel
theorem dX8_stepNumber_101 : decode cX8_stepNumber 101 = .ok (.goto 4, 3) := by decide +kernel
theorem dX8_stepNumber_104 : decode cX8_stepNumber 104 = .ok (.iconst 0, 1) := by decide +kernel
theorem dX8_stepNumber_105 : decode cX8_stepNumber 105 = .ok (.istore_n 1, 1) := by decide +kernel
theorem dX8_stepNumber_106 : decode cX8_stepNumber 106 = .ok (.aload_n 0, 1) := by decide +kernel
theorem dX8_stepNumber_107 : decode cX8_stepNumber 107 = .ok (.iload_n 1, 1) := by decide +kernel
theorem dX8_stepNumber_108 : decode cX8_stepNumber 108 = .ok (.ifCond .ne 12, 3) := by decide +kernel
theorem dX8_stepNumber_111 : decode cX8_stepNumber 111 = .ok (.aload_n 0, 1) := by decide +kernel
theorem dX8_stepNumber_112 : decode cX8_stepNumber 112 = .ok (.getfield 37, 3) := by decide +kernel
theorem dX8_stepNumber_115 : decode cX8_stepNumber 115 = .ok (.bipush 99, 2) := by decide +kernel
theorem dX8_stepNumber_117 : decode cX8_stepNumber 117 = .ok (.if_icmp .le 7, 3) := by decide +kernel
theorem dX8_stepNumber_120 : decode cX8_stepNumber 120 = .ok (.iconst 4, 1) := by decide +kernel
theorem dX8_stepNumber_121 : decode cX8_stepNumber 121 = .ok (.goto 4, 3) := by decide +kernel
theorem dX8_stepNumber_124 : decode cX8_stepNumber 124 = .ok (.iconst 2, 1) := by decide +kernel
theorem dX8_stepNumber_125 : decode cX8_stepNumber 125 = .ok (.putfield 34, 3) := by decide +kernel
theorem dX8_stepNumber_128 : decode cX8_stepNumber 128 = .ok (.return_, 1) := by decide +kernel
theorem dX8_isLetter_0 : decode cX8_isLetter 0 = .ok (.iload_n 0, 1) := by decide +kernel
theorem dX8_isLetter_1 : decode cX8_isLetter 1 = .ok (.bipush 97, 2) := by decide +kernel
theorem dX8_isLetter_3 : decode cX8_isLetter 3 = .ok (.if_icmp .lt 13, 3) := by decide +kernel
theorem dX8_isLetter_6 : decode cX8_isLetter 6 = .ok (.iload_n 0, 1) := by decide +kernel
theorem dX8_isLetter_7 : decode cX8_isLetter 7 = .ok (.bipush 122, 2) := by decide +kernel
theorem dX8_isLetter_9 : decode cX8_isLetter 9 = .ok (.if_icmp .gt 7, 3) := by decide +kernel
theorem dX8_isLetter_12 : decode cX8_isLetter 12 = .ok (.iconst 1, 1) := by decide +kernel
theorem dX8_isLetter_13 : decode cX8_isLetter 13 = .ok (.goto 4, 3) := by decide +kernel
theorem dX8_isLetter_16 : decode cX8_isLetter 16 = .ok (.iconst 0, 1) := by decide +kernel
theorem dX8_isLetter_17 : decode cX8_isLetter 17 = .ok (.ireturn, 1) := by decide +kernel
theorem dX8_isDigit_0 : decode cX8_isDigit 0 = .ok (.iload_n 0, 1) := by decide +kernel
theorem dX8_isDigit_1 : decode cX8_isDigit 1 = .ok (.bipush 48, 2) := by decide +kernel
theorem dX8_isDigit_3 : decode cX8_isDigit 3 = .ok (.if_icmp .lt 13, 3) := by decide +kernel
theorem dX8_isDigit_6 : decode cX8_isDigit 6 = .ok (.iload_n 0, 1) := by decide +kernel
theorem dX8_isDigit_7 : decode cX8_isDigit 7 = .ok (.bipush 57, 2) := by decide +kernel
theorem dX8_isDigit_9 : decode cX8_isDigit 9 = .ok (.if_icmp .gt 7, 3) := by decide +kernel
theorem dX8_isDigit_12 : decode cX8_isDigit 12 = .ok (.iconst 1, 1) := by decide +kernel
theorem dX8_isDigit_13 : decode cX8_isDigit 13 = .ok (.goto 4, 3) := by decide +kernel
theorem dX8_isDigit_16 : decode cX8_isDigit 16 = .ok (.iconst 0, 1) := by decide +kernel
theorem dX8_isDigit_17 : decode cX8_isDigit 17 = .ok (.ireturn, 1) := by decide +kernel
theorem dX9_init_0 : decode cX9_init 0 = .ok (.aload_n 0, 1) := by decide +kernel
theorem dX9_init_1 : decode cX9_init 1 = .ok (.invokespecial 1, 3) := by decide +kernel
theorem dX9_init_4 : decode cX9_init 4 = .ok (.aload_n 0, 1) := by decide +kernel
theorem dX9_init_5 : decode cX9_init 5 = .ok (.new 7, 3) := by decide +kernel
theorem dX9_init_8 : decode cX9_init 8 = .ok (.dup, 1) := by decide +kernel
theorem dX9_init_9 : decode cX9_init 9 = .ok (.invokespecial 9, 3) := by decide +kernel
theorem dX9_init_12 : decode cX9_init 12 = .ok (.putfield 10, 3) := by decide +kernel
theorem dX9_init_15 : decode cX9_init 15 = .ok (.aload_n 0, 1) := by decide +kernel
theorem dX9_init_16 : decode cX9_init 16 = .ok (.new 16, 3) := by decide +kernel
theorem dX9_init_19 : decode cX9_init 19 = .ok (.dup, 1) := by decide +kernel
theorem dX9_init_20 : decode cX9_init 20 = .ok (.invokespecial 18, 3) := by decide +kernel
theorem dX9_init_23 : decode cX9_init 23 = .ok (.putfield 19, 3) := by decide +kernel
theorem dX9_init_26 : decode cX9_init 26 = .ok (.aload_n 0, 1) := by decide +kernel
theorem dX9_init_27 : decode cX9_init 27 = .ok (.new 16, 3) := by decide +kernel
theorem dX9_init_30 : decode cX9_init 30 = .ok (.dup, 1) := by decide +kernel
theorem dX9_init_31 : decode cX9_init 31 = .ok (.invokespecial 18, 3) := by decide +kernel
theorem dX9_init_34 : decode cX9_init 34 = .ok (.putfield 23, 3) := by decide +kernel
theorem dX9_init_37 : decode cX9_init 37 = .ok (.aload_n 0, 1) := by decide +kernel
theorem dX9_init_38 : decode cX9_init 38 = .ok (.new 26, 3) := by decide +kernel
theorem dX9_init_41 : decode cX9_init 41 = .ok (.dup, 1) := by decide +kernel
theorem dX9_init_42 : decode cX9_init 42 = .ok (.invokespecial 28, 3) := by decide +kernel
theorem dX9_init_45 : decode cX9_init 45 = .ok (.putfield 29, 3) := by decide +kernel
theorem dX9_init_48 : decode cX9_init 48 = .ok (.aload_n 0, 1) := by decide +kernel
theorem dX9_init_49 : decode cX9_init 49 = .ok (.new 33, 3) := by decide +kernel
theorem dX9_init_52 : decode cX9_init 52 = .ok (.dup, 1) := by decide +kernel
theorem dX9_init_53 : decode cX9_init 53 = .ok (.aload_n 0, 1) := by decide +kernel
theorem dX9_init_54 : decode cX9_init 54 = .ok (.getfield 19, 3) := by decide +kernel
theorem dX9_init_57 : decode cX9_init 57 = .ok (.aload_n 0, 1) := by decide +kernel
theorem dX9_init_58 : decode cX9_init 58 = .ok (.getfield 29, 3) := by decide +kernel
theorem dX9_init_61 : decode cX9_init 61 = .ok (.invokespecial 35, 3) := by decide +kernel
theorem dX9_init_64 : decode cX9_init 64 = .ok (.putfield 38, 3) := by decide +kernel
theorem dX9_init_67 : decode cX9_init 67 = .ok (.aload_n 0, 1) := by decide +kernel
theorem dX9_init_68 : decode cX9_init 68 = .ok (.new 42, 3) := by decide +kernel
theorem dX9_init_71 : decode cX9_init 71 = .ok (.dup, 1) := by decide +kernel
theorem dX9_init_72 : decode cX9_init 72 = .ok (.invokespecial 44, 3) := by decide +kernel
theorem dX9_init_75 : decode cX9_init 75 = .ok (.putfield 45, 3) := by decide +kernel
theorem dX9_init_78 : decode cX9_init 78 = .ok (.aload_n 0, 1) := by decide +kernel
theorem dX9_init_79 : decode cX9_init 79 = .ok (.iconst 2, 1) := by decide +kernel
theorem dX9_init_80 : decode cX9_init 80 = .ok (.anewarray 49, 3) := by decide +kernel
theorem dX9_init_83 : decode cX9_init 83 = .ok (.putfield 51, 3) := by decide +kernel
theorem dX9_init_86 : decode cX9_init 86 = .ok (.aload_n 0, 1) := by decide +kernel
theorem dX9_init_87 : decode cX9_init 87 = .ok (.new 55, 3) := by decide +kernel
theorem dX9_init_90 : decode cX9_init 90 = .ok (.dup, 1) := by decide +kernel
theorem dX9_init_91 : decode cX9_init 91 = .ok (.aload_n 0, 1) := by decide +kernel
theorem dX9_init_92 : decode cX9_init 92 = .ok (.getfield 38, 3) := by decide +kernel
theorem dX9_init_95 : decode cX9_init 95 = .ok (.invokespecial 57, 3) := by decide +kernel
theorem dX9_init_98 : decode cX9_init 98 = .ok (.putfield 60, 3) := by decide +kernel
theorem dX9_init_101 : decode cX9_init 101 = .ok (.aload_n 0, 1) := by decide +kernel
theorem dX9_init_102 : decode cX9_init 102 = .ok (.new 64, 3) := by decide +kernel
theorem dX9_init_105 : decode cX9_init 105 = .ok (.dup, 1) := by decide +kernel
theorem dX9_init_106 : decode cX9_init 106 = .ok (.aload_n 0, 1) := by decide +kernel
theorem dX9_init_107 : decode cX9_init 107 = .ok (.getfield 38, 3) := by decide +kernel
theorem dX9_init_110 : decode cX9_init 110 = .ok (.invokespecial 66, 3) := by decide +kernel
theorem dX9_init_113 : decode cX9_init 113 = .ok (.putfield 67, 3) := by decide +kernel
theorem dX9_init_116 : decode cX9_init 116 = .ok (.aload_n 0, 1) := by decide +kernel
theorem dX9_init_117 : decode cX9_init 117 = .ok (.new 71, 3) := by decide +kernel
theorem dX9_init_120 : decode cX9_init 120 = .ok (.dup, 1) := by decide +kernel
theorem dX9_init_121 : decode cX9_init 121 = .ok (.aload_n 0, 1) := by decide +kernel
theorem dX9_init_122 : decode cX9_init 122 = .ok (.getfield 38, 3) := by decide +kernel
theorem dX9_init_125 : decode cX9_init 125 = .ok (.invokespecial 73, 3) := by decide +kernel
theorem dX9_init_128 : decode cX9_init 128 = .ok (.putfield 74, 3) := by decide +kernel
theorem dX9_init_131 : decode cX9_init 131 = .ok (.iconst 0, 1) := by decide +kernel
theorem dX9_init_132 : decode cX9_init 132 = .ok (.istore_n 1, 1) := by decide +kernel
theorem dX9_init_133 : decode cX9_init 133 = .ok (.iload_n 1, 1) := by decide +kernel
theorem dX9_init_134 : decode cX9_init 134 = .ok (.iconst 2, 1) := by decide +kernel
theorem dX9_init_135 : decode cX9_init 135 = .ok (.if_icmp .ge 22, 3) := by decide +kernel
theorem dX9_init_138 : decode cX9_init 138 = .ok (.aload_n 0, 1) := by decide +kernel
theorem dX9_init_139 : decode cX9_init 139 = .ok (.getfield 51, 3) := by decide +kernel
theorem dX9_init_142 : decode cX9_init 142 = .ok (.iload_n 1, 1) := by decide +kernel
theorem dX9_init_143 : decode cX9_init 143 = .ok (.new 49, 3) := by decide +kernel
theorem dX9_init_146 : decode cX9_init 146 = .ok (.dup, 1) := by decide +kernel
theorem dX9_init_147 : decode cX9_init 147 = .ok (.invokespecial 78, 3) := by decide +kernel
theorem dX9_init_150 : decode cX9_init 150 = .ok (.aastore, 1) := by decide +kernel
theorem dX9_init_151 : decode cX9_init 151 = .ok (.iinc 1 1, 3) := by decide +kernel
theorem dX9_init_154 : decode cX9_init 154 = .ok (.goto (-21), 3) := by decide +kernel
theorem dX9_init_157 : decode cX9_init 157 = .ok (.aload_n 0, 1) := by decide +kernel
theorem dX9_init_158 : decode cX9_init 158 = .ok (.getfield 19, 3) := by decide +kernel
theorem dX9_init_161 : decode cX9_init 161 = .ok (.invokevirtual 79, 3) := by decide +kernel
theorem dX9_init_164 : decode cX9_init 164 = .ok (.aload_n 0, 1) := by decide +kernel
theorem dX9_init_165 : decode cX9_init 165 = .ok (.invokevirtual 82, 3) := by decide +kernel
theorem dX9_init_168 : decode cX9_init 168 = .ok (.return_, 1) := by decide +kernel
theorem dX9_type_0 : decode cX9_type 0 = .ok (.iload_n 1, 1) := by decide +kernel
theorem dX9_type_1 : decode cX9_type 1 = .ok (.ifCond .lt 10, 3) := by decide +kernel
theorem dX9_type_4 : decode cX9_type 4 = .ok (.iload_n 1, 1) := by decide +kernel
theorem dX9_type_5 : decode cX9_type 5 = .ok (.sipush 255, 3) := by decide +kernel
theorem dX9_type_8 : decode cX9_type 8 = .ok (.if_icmp .le 5, 3) := by decide +kernel
theorem dX9_type_11 : decode cX9_type 11 = .ok (.iconst (-1), 1) := by decide +kernel
theorem dX9_type_12 : decode cX9_type 12 = .ok (.ireturn, 1) := by decide +kernel
theorem dX9_type_13 : decode cX9_type 13 = .ok (.aload_n 0, 1) := by decide +kernel
theorem dX9_type_14 : decode cX9_type 14 = .ok (.getfield 10, 3) := by decide +kernel
theorem dX9_type_17 : decode cX9_type 17 = .ok (.iload_n 1, 1) := by decide +kernel
theorem dX9_type_18 : decode cX9_type 18 = .ok (.invokevirtual 85, 3) := by decide +kernel
theorem dX9_type_21 : decode cX9_type 21 = .ok (.ifCond .eq 13, 3) := by decide +kernel
theorem dX9_type_24 : decode cX9_type 24 = .ok (.aload_n 0, 1) := by decide +kernel
theorem dX9_type_25 : decode cX9_type 25 = .ok (.getfield 10, 3) := by decide +kernel
theorem dX9_type_28 : decode cX9_type 28 = .ok (.getfield 89, 3) := by decide +kernel
theorem dX9_type_31 : decode cX9_type 31 = .ok (.goto 5, 3) := by decide +kernel
theorem dX9_type_34 : decode cX9_type 34 = .ok (.bipush (-3), 2) := by decide +kernel
theorem dX9_type_36 : decode cX9_type 36 = .ok (.ireturn, 1) := by decide +kernel
theorem dX9_clear_0 : decode cX9_clear 0 = .ok (.aload_n 0, 1) := by decide +kernel
theorem dX9_clear_1 : decode cX9_clear 1 = .ok (.getfield 10, 3) := by decide +kernel
theorem dX9_clear_4 : decode cX9_clear 4 = .ok (.getfield 89, 3) := by decide +kernel
theorem dX9_clear_7 : decode cX9_clear 7 = .ok (.istore_n 1, 1) := by decide +kernel
theorem dX9_clear_8 : decode cX9_clear 8 = .ok (.aload_n 0, 1) := by decide +kernel
theorem dX9_clear_9 : decode cX9_clear 9 = .ok (.getfield 10, 3) := by decide +kernel
theorem dX9_clear_12 : decode cX9_clear 12 = .ok (.iconst 0, 1) := by decide +kernel
theorem dX9_clear_13 : decode cX9_clear 13 = .ok (.putfield 89, 3) := by decide +kernel
theorem dX9_clear_16 : decode cX9_clear 16 = .ok (.iload_n 1, 1) := by decide +kernel
theorem dX9_clear_17 : decode cX9_clear 17 = .ok (.ireturn, 1) := by decide +kernel
theorem dX9_downs_0 : decode cX9_downs 0 = .ok (.aload_n 0, 1) := by decide +kernel
theorem dX9_downs_1 : decode cX9_downs 1 = .ok (.getfield 10, 3) := by decide +kernel
theorem dX9_downs_4 : decode cX9_downs 4 = .ok (.aload_n 0, 1) := by decide +kernel
theorem dX9_downs_5 : decode cX9_downs 5 = .ok (.getfield 23, 3) := by decide +kernel
theorem dX9_downs_8 : decode cX9_downs 8 = .ok (.invokevirtual 93, 3) := by decide +kernel
theorem dX9_downs_11 : decode cX9_downs 11 = .ok (.istore_n 1, 1) := by decide +kernel
theorem dX9_downs_12 : decode cX9_downs 12 = .ok (.iload_n 1, 1) := by decide +kernel
theorem dX9_downs_13 : decode cX9_downs 13 = .ok (.ifCond .ge 5, 3) := by decide +kernel
theorem dX9_downs_16 : decode cX9_downs 16 = .ok (.iload_n 1, 1) := by decide +kernel
theorem dX9_downs_17 : decode cX9_downs 17 = .ok (.ireturn, 1) := by decide +kernel
theorem dX9_downs_18 : decode cX9_downs 18 = .ok (.aload_n 0, 1) := by decide +kernel
theorem dX9_downs_19 : decode cX9_downs 19 = .ok (.getfield 10, 3) := by decide +kernel
theorem dX9_downs_22 : decode cX9_downs 22 = .ok (.iconst 0, 1) := by decide +kernel
theorem dX9_downs_23 : decode cX9_downs 23 = .ok (.putfield 89, 3) := by decide +kernel
theorem dX9_downs_26 : decode cX9_downs 26 = .ok (.aload_n 0, 1) := by decide +kernel
theorem dX9_downs_27 : decode cX9_downs 27 = .ok (.getfield 19, 3) := by decide +kernel
theorem dX9_downs_30 : decode cX9_downs 30 = .ok (.aload_n 0, 1) := by decide +kernel
theorem dX9_downs_31 : decode cX9_downs 31 = .ok (.getfield 23, 3) := by decide +kernel
theorem dX9_downs_34 : decode cX9_downs 34 = .ok (.invokevirtual 97, 3) := by decide +kernel
theorem dX9_downs_37 : decode cX9_downs 37 = .ok (.aload_n 0, 1) := by decide +kernel
theorem dX9_downs_38 : decode cX9_downs 38 = .ok (.invokevirtual 82, 3) := by decide +kernel
theorem dX9_downs_41 : decode cX9_downs 41 = .ok (.iload_n 1, 1) := by decide +kernel
theorem dX9_downs_42 : decode cX9_downs 42 = .ok (.ireturn, 1) := by decide +kernel
theorem dX9_fence_0 : decode cX9_fence 0 = .ok (.aload_n 0, 1) := by decide +kernel
theorem dX9_fence_1 : decode cX9_fence 1 = .ok (.iload_n 1, 1) := by decide +kernel
theorem dX9_fence_2 : decode cX9_fence 2 = .ok (.invokevirtual 101, 3) := by decide +kernel
theorem dX9_fence_5 : decode cX9_fence 5 = .ok (.ifCond .ne 5, 3) := by decide +kernel
theorem dX9_fence_8 : decode cX9_fence 8 = .ok (.iconst (-1), 1) := by decide +kernel
theorem dX9_fence_9 : decode cX9_fence 9 = .ok (.ireturn, 1) := by decide +kernel
theorem dX9_fence_10 : decode cX9_fence 10 = .ok (.iload_n 2, 1) := by decide +kernel
theorem dX9_fence_11 : decode cX9_fence 11 = .ok (.tableswitch 87 0 4 #[33, 43, 53, 63, 75], 33) := by decide +kernel
theorem dX9_fence_44 : decode cX9_fence 44 = .ok (.aload_n 0, 1) := by decide +kernel
theorem dX9_fence_45 : decode cX9_fence 45 = .ok (.getfield 19, 3) := by decide +kernel
theorem dX9_fence_48 : decode cX9_fence 48 = .ok (.getfield 104, 3) := by decide +kernel
theorem dX9_fence_51 : decode cX9_fence 51 = .ok (.iload_n 1, 1) := by decide +kernel
theorem dX9_fence_52 : decode cX9_fence 52 = .ok (.iaload, 1) := by decide +kernel
theorem dX9_fence_53 : decode cX9_fence 53 = .ok (.ireturn, 1) := by decide +kernel
theorem dX9_fence_54 : decode cX9_fence 54 = .ok (.aload_n 0, 1) := by decide +kernel
theorem dX9_fence_55 : decode cX9_fence 55 = .ok (.getfield 19, 3) := by decide +kernel
theorem dX9_fence_58 : decode cX9_fence 58 = .ok (.getfield 108, 3) := by decide +kernel
theorem dX9_fence_61 : decode cX9_fence 61 = .ok (.iload_n 1, 1) := by decide +kernel
theorem dX9_fence_62 : decode cX9_fence 62 = .ok (.iaload, 1) := by decide +kernel
theorem dX9_fence_63 : decode cX9_fence 63 = .ok (.ireturn, 1) := by decide +kernel
theorem dX9_fence_64 : decode cX9_fence 64 = .ok (.aload_n 0, 1) := by decide +kernel
theorem dX9_fence_65 : decode cX9_fence 65 = .ok (.getfield 29, 3) := by decide +kernel
theorem dX9_fence_68 : decode cX9_fence 68 = .ok (.getfield 111, 3) := by decide +kernel
theorem dX9_fence_71 : decode cX9_fence 71 = .ok (.iload_n 1, 1) := by decide +kernel
theorem dX9_fence_72 : decode cX9_fence 72 = .ok (.iaload, 1) := by decide +kernel
theorem dX9_fence_73 : decode cX9_fence 73 = .ok (.ireturn, 1) := by decide +kernel
theorem dX9_fence_74 : decode cX9_fence 74 = .ok (.aload_n 0, 1) := by decide +kernel
theorem dX9_fence_75 : decode cX9_fence 75 = .ok (.getfield 29, 3) := by decide +kernel
theorem dX9_fence_78 : decode cX9_fence 78 = .ok (.getfield 114, 3) := by decide +kernel
theorem dX9_fence_81 : decode cX9_fence 81 = .ok (.iload_n 1, 1) := by decide +kernel
theorem dX9_fence_82 : decode cX9_fence 82 = .ok (.ishr, 1) := by decide +kernel
theorem dX9_fence_83 : decode cX9_fence 83 = .ok (.iconst 1, 1) := by decide +kernel
theorem dX9_fence_84 : decode cX9_fence 84 = .ok (.iand, 1) := by decide +kernel
theorem dX9_fence_85 : decode cX9_fence 85 = .ok (.ireturn, 1) := by decide +kernel
theorem dX9_fence_86 : decode cX9_fence 86 = .ok (.aload_n 0, 1) := by decide +kernel
theorem dX9_fence_87 : decode cX9_fence 87 = .ok (.getfield 29, 3) := by decide +kernel
theorem dX9_fence_90 : decode cX9_fence 90 = .ok (.getfield 117, 3) := by decide +kernel
theorem dX9_fence_93 : decode cX9_fence 93 = .ok (.iload_n 1, 1) := by decide +kernel
theorem dX9_fence_94 : decode cX9_fence 94 = .ok (.ishr, 1) := by decide +kernel
theorem dX9_fence_95 : decode cX9_fence 95 = .ok (.iconst 1, 1) := by decide +kernel
theorem dX9_fence_96 : decode cX9_fence 96 = .ok (.iand, 1) := by decide +kernel
theorem dX9_fence_97 : decode cX9_fence 97 = .ok (.ireturn, 1) := by decide +kernel
theorem dX9_fence_98 : decode cX9_fence 98 = .ok (.iconst (-1), 1) := by decide +kernel
theorem dX9_fence_99 : decode cX9_fence 99 = .ok (.ireturn, 1) := by decide +kernel
theorem dX9_kind_0 : decode cX9_kind 0 = .ok (.aload_n 0, 1) := by decide +kernel
theorem dX9_kind_1 : decode cX9_kind 1 = .ok (.iload_n 1, 1) := by decide +kernel
theorem dX9_kind_2 : decode cX9_kind 2 = .ok (.invokevirtual 120, 3) := by decide +kernel
theorem dX9_kind_5 : decode cX9_kind 5 = .ok (.ifCond .ne 6, 3) := by decide +kernel
theorem dX9_kind_8 : decode cX9_kind 8 = .ok (.ldc 123, 2) := by decide +kernel
theorem dX9_kind_10 : decode cX9_kind 10 = .ok (.ireturn, 1) := by decide +kernel
theorem dX9_kind_11 : decode cX9_kind 11 = .ok (.iload_n 2, 1) := by decide +kernel
theorem dX9_kind_12 : decode cX9_kind 12 = .ok (.lookupswitch 48 #[(0, 28), (1, 38)], 28) := by decide +kernel
theorem dX9_kind_40 : decode cX9_kind 40 = .ok (.aload_n 0, 1) := by decide +kernel
theorem dX9_kind_41 : decode cX9_kind 41 = .ok (.getfield 19, 3) := by decide +kernel
theorem dX9_kind_44 : decode cX9_kind 44 = .ok (.getfield 124, 3) := by decide +kernel
theorem dX9_kind_47 : decode cX9_kind 47 = .ok (.iload_n 1, 1) := by decide +kernel
theorem dX9_kind_48 : decode cX9_kind 48 = .ok (.iaload, 1) := by decide +kernel
theorem dX9_kind_49 : decode cX9_kind 49 = .ok (.ireturn, 1) := by decide +kernel
theorem dX9_kind_50 : decode cX9_kind 50 = .ok (.aload_n 0, 1) := by decide +kernel
theorem dX9_kind_51 : decode cX9_kind 51 = .ok (.getfield 19, 3) := by decide +kernel
theorem dX9_kind_54 : decode cX9_kind 54 = .ok (.getfield 127, 3) := by decide +kernel
theorem dX9_kind_57 : decode cX9_kind 57 = .ok (.iload_n 1, 1) := by decide +kernel
theorem dX9_kind_58 : decode cX9_kind 58 = .ok (.iaload, 1) := by decide +kernel
theorem dX9_kind_59 : decode cX9_kind 59 = .ok (.ireturn, 1) := by decide +kernel
theorem dX9_kind_60 : decode cX9_kind 60 = .ok (.ldc 123, 2) := by decide +kernel
theorem dX9_kind_62 : decode cX9_kind 62 = .ok (.ireturn, 1) := by decide +kernel
theorem dX9_beast_0 : decode cX9_beast 0 = .ok (.aload_n 0, 1) := by decide +kernel
theorem dX9_beast_1 : decode cX9_beast 1 = .ok (.iload_n 1, 1) := by decide +kernel
theorem dX9_beast_2 : decode cX9_beast 2 = .ok (.invokevirtual 130, 3) := by decide +kernel
theorem dX9_beast_5 : decode cX9_beast 5 = .ok (.ifCond .ne 5, 3) := by decide +kernel
theorem dX9_beast_8 : decode cX9_beast 8 = .ok (.iconst (-1), 1) := by decide +kernel
theorem dX9_beast_9 : decode cX9_beast 9 = .ok (.ireturn, 1) := by decide +kernel
theorem dX9_beast_10 : decode cX9_beast 10 = .ok (.iload_n 2, 1) := by decide +kernel
theorem dX9_beast_11 : decode cX9_beast 11 = .ok (.lookupswitch 45 #[(0, 25), (1, 35)], 25) := by decide +kernel
theorem dX9_beast_36 : decode cX9_beast 36 = .ok (.aload_n 0, 1) := by decide +kernel
theorem dX9_beast_37 : decode cX9_beast 37 = .ok (.getfield 19, 3) := by decide +kernel
theorem dX9_beast_40 : decode cX9_beast 40 = .ok (.getfield 133, 3) := by decide +kernel
theorem dX9_beast_43 : decode cX9_beast 43 = .ok (.iload_n 1, 1) := by decide +kernel
theorem dX9_beast_44 : decode cX9_beast 44 = .ok (.iaload, 1) := by decide +kernel
theorem dX9_beast_45 : decode cX9_beast 45 = .ok (.ireturn, 1) := by decide +kernel
theorem dX9_beast_46 : decode cX9_beast 46 = .ok (.aload_n 0, 1) := by decide +kernel
theorem dX9_beast_47 : decode cX9_beast 47 = .ok (.getfield 29, 3) := by decide +kernel
theorem dX9_beast_50 : decode cX9_beast 50 = .ok (.getfield 136, 3) := by decide +kernel
theorem dX9_beast_53 : decode cX9_beast 53 = .ok (.iload_n 1, 1) := by decide +kernel
theorem dX9_beast_54 : decode cX9_beast 54 = .ok (.iaload, 1) := by decide +kernel
theorem dX9_beast_55 : decode cX9_beast 55 = .ok (.ireturn, 1) := by decide +kernel
theorem dX9_beast_56 : decode cX9_beast 56 = .ok (.iconst (-1), 1) := by decide +kernel
theorem dX9_beast_57 : decode cX9_beast 57 = .ok (.ireturn, 1) := by decide +kernel
theorem dX9_sound_0 : decode cX9_sound 0 = .ok (.aload_n 0, 1) := by decide +kernel
theorem dX9_sound_1 : decode cX9_sound 1 = .ok (.iload_n 1, 1) := by decide +kernel
theorem dX9_sound_2 : decode cX9_sound 2 = .ok (.invokevirtual 120, 3) := by decide +kernel
theorem dX9_sound_5 : decode cX9_sound 5 = .ok (.ifCond .eq 23, 3) := by decide +kernel
theorem dX9_sound_8 : decode cX9_sound 8 = .ok (.aload_n 0, 1) := by decide +kernel
theorem dX9_sound_9 : decode cX9_sound 9 = .ok (.iload_n 2, 1) := by decide +kernel
theorem dX9_sound_10 : decode cX9_sound 10 = .ok (.invokevirtual 101, 3) := by decide +kernel
theorem dX9_sound_13 : decode cX9_sound 13 = .ok (.ifCond .eq 15, 3) := by decide +kernel
theorem dX9_sound_16 : decode cX9_sound 16 = .ok (.aload_n 0, 1) := by decide +kernel
theorem dX9_sound_17 : decode cX9_sound 17 = .ok (.getfield 38, 3) := by decide +kernel
theorem dX9_sound_20 : decode cX9_sound 20 = .ok (.iload_n 1, 1) := by decide +kernel
theorem dX9_sound_21 : decode cX9_sound 21 = .ok (.iload_n 2, 1) := by decide +kernel
theorem dX9_sound_22 : decode cX9_sound 22 = .ok (.invokevirtual 139, 3) := by decide +kernel
theorem dX9_sound_25 : decode cX9_sound 25 = .ok (.goto 4, 3) := by decide +kernel
theorem dX9_sound_28 : decode cX9_sound 28 = .ok (.iconst (-1), 1) := by decide +kernel
theorem dX9_sound_29 : decode cX9_sound 29 = .ok (.ireturn, 1) := by decide +kernel
theorem dX9_goes_0 : decode cX9_goes 0 = .ok (.aload_n 0, 1) := by decide +kernel
theorem dX9_goes_1 : decode cX9_goes 1 = .ok (.iload_n 1, 1) := by decide +kernel
theorem dX9_goes_2 : decode cX9_goes 2 = .ok (.invokevirtual 130, 3) := by decide +kernel
theorem dX9_goes_5 : decode cX9_goes 5 = .ok (.ifCond .eq 11, 3) := by decide +kernel
theorem dX9_goes_8 : decode cX9_goes 8 = .ok (.aload_n 0, 1) := by decide +kernel
theorem dX9_goes_9 : decode cX9_goes 9 = .ok (.iload_n 2, 1) := by decide +kernel
theorem dX9_goes_10 : decode cX9_goes 10 = .ok (.invokevirtual 101, 3) := by decide +kernel
theorem dX9_goes_13 : decode cX9_goes 13 = .ok (.ifCond .ne 5, 3) := by decide +kernel
theorem dX9_goes_16 : decode cX9_goes 16 = .ok (.iconst (-1), 1) := by decide +kernel
theorem dX9_goes_17 : decode cX9_goes 17 = .ok (.ireturn, 1) := by decide +kernel
theorem dX9_goes_18 : decode cX9_goes 18 = .ok (.aload_n 0, 1) := by decide +kernel
theorem dX9_goes_19 : decode cX9_goes 19 = .ok (.getfield 29, 3) := by decide +kernel
theorem dX9_goes_22 : decode cX9_goes 22 = .ok (.getfield 136, 3) := by decide +kernel
theorem dX9_goes_25 : decode cX9_goes 25 = .ok (.iload_n 1, 1) := by decide +kernel
theorem dX9_goes_26 : decode cX9_goes 26 = .ok (.iaload, 1) := by decide +kernel
theorem dX9_goes_27 : decode cX9_goes 27 = .ok (.istore_n 3, 1) := by decide +kernel
theorem dX9_goes_28 : decode cX9_goes 28 = .ok (.aload_n 0, 1) := by decide +kernel
theorem dX9_goes_29 : decode cX9_goes 29 = .ok (.getfield 19, 3) := by decide +kernel
theorem dX9_goes_32 : decode cX9_goes 32 = .ok (.iload_n 2, 1) := by decide +kernel
theorem dX9_goes_33 : decode cX9_goes 33 = .ok (.iload_n 3, 1) := by decide +kernel
theorem dX9_goes_34 : decode cX9_goes 34 = .ok (.invokevirtual 143, 3) := by decide +kernel
theorem dX9_goes_37 : decode cX9_goes 37 = .ok (.ifCond .ne 6, 3) := by decide +kernel
theorem dX9_goes_40 : decode cX9_goes 40 = .ok (.bipush (-2), 2) := by decide +kernel
theorem dX9_goes_42 : decode cX9_goes 42 = .ok (.ireturn, 1) := by decide +kernel
theorem dX9_goes_43 : decode cX9_goes 43 = .ok (.aload_n 0, 1) := by decide +kernel
theorem dX9_goes_44 : decode cX9_goes 44 = .ok (.getfield 38, 3) := by decide +kernel
theorem dX9_goes_47 : decode cX9_goes 47 = .ok (.aload_n 0, 1) := by decide +kernel
theorem dX9_goes_48 : decode cX9_goes 48 = .ok (.getfield 19, 3) := by decide +kernel
theorem dX9_goes_51 : decode cX9_goes 51 = .ok (.getfield 133, 3) := by decide +kernel
theorem dX9_goes_54 : decode cX9_goes 54 = .ok (.iload_n 1, 1) := by decide +kernel
theorem dX9_goes_55 : decode cX9_goes 55 = .ok (.iaload, 1) := by decide +kernel
theorem dX9_goes_56 : decode cX9_goes 56 = .ok (.iload_n 2, 1) := by decide +kernel
theorem dX9_goes_57 : decode cX9_goes 57 = .ok (.invokevirtual 139, 3) := by decide +kernel
theorem dX9_goes_60 : decode cX9_goes 60 = .ok (.istore 4, 2) := by decide +kernel
theorem dX9_goes_62 : decode cX9_goes 62 = .ok (.aload_n 0, 1) := by decide +kernel
theorem dX9_goes_63 : decode cX9_goes 63 = .ok (.getfield 45, 3) := by decide +kernel
theorem dX9_goes_66 : decode cX9_goes 66 = .ok (.aload_n 0, 1) := by decide +kernel
theorem dX9_goes_67 : decode cX9_goes 67 = .ok (.getfield 29, 3) := by decide +kernel
theorem dX9_goes_70 : decode cX9_goes 70 = .ok (.invokevirtual 147, 3) := by decide +kernel
theorem dX9_goes_73 : decode cX9_goes 73 = .ok (.aload_n 0, 1) := by decide +kernel
theorem dX9_goes_74 : decode cX9_goes 74 = .ok (.getfield 29, 3) := by decide +kernel
theorem dX9_goes_77 : decode cX9_goes 77 = .ok (.getfield 136, 3) := by decide +kernel
theorem dX9_goes_80 : decode cX9_goes 80 = .ok (.iload_n 1, 1) := by decide +kernel
theorem dX9_goes_81 : decode cX9_goes 81 = .ok (.aload_n 0, 1) := by decide +kernel
theorem dX9_goes_82 : decode cX9_goes 82 = .ok (.getfield 19, 3) := by decide +kernel
theorem dX9_goes_85 : decode cX9_goes 85 = .ok (.iload_n 2, 1) := by decide +kernel
theorem dX9_goes_86 : decode cX9_goes 86 = .ok (.iload_n 3, 1) := by decide +kernel
theorem dX9_goes_87 : decode cX9_goes 87 = .ok (.invokevirtual 151, 3) := by decide +kernel
theorem dX9_goes_90 : decode cX9_goes 90 = .ok (.iastore, 1) := by decide +kernel
theorem dX9_goes_91 : decode cX9_goes 91 = .ok (.iload 4, 2) := by decide +kernel
theorem dX9_goes_93 : decode cX9_goes 93 = .ok (.ifCond .le 12, 3) := by decide +kernel
theorem dX9_goes_96 : decode cX9_goes 96 = .ok (.aload_n 0, 1) := by decide +kernel
theorem dX9_goes_97 : decode cX9_goes 97 = .ok (.getfield 29, 3) := by decide +kernel
theorem dX9_goes_100 : decode cX9_goes 100 = .ok (.iload 4, 2) := by decide +kernel
theorem dX9_goes_102 : decode cX9_goes 102 = .ok (.invokevirtual 154, 3) := by decide +kernel
theorem dX9_goes_105 : decode cX9_goes 105 = .ok (.iload 4, 2) := by decide +kernel
theorem dX9_goes_107 : decode cX9_goes 107 = .ok (.ireturn, 1) := by decide +kernel
theorem dX9_cuts_0 : decode cX9_cuts 0 = .ok (.aload_n 0, 1) := by decide +kernel
theorem dX9_cuts_1 : decode cX9_cuts 1 = .ok (.iload_n 1, 1) := by decide +kernel
theorem dX9_cuts_2 : decode cX9_cuts 2 = .ok (.invokevirtual 101, 3) := by decide +kernel
theorem dX9_cuts_5 : decode cX9_cuts 5 = .ok (.ifCond .eq 10, 3) := by decide +kernel
theorem dX9_cuts_8 : decode cX9_cuts 8 = .ok (.iload_n 2, 1) := by decide +kernel
theorem dX9_cuts_9 : decode cX9_cuts 9 = .ok (.invokestatic 158, 3) := by decide +kernel
theorem dX9_cuts_12 : decode cX9_cuts 12 = .ok (.ifCond .ne 5, 3) := by decide +kernel
theorem dX9_cuts_15 : decode cX9_cuts 15 = .ok (.iconst (-1), 1) := by decide +kernel
theorem dX9_cuts_16 : decode cX9_cuts 16 = .ok (.ireturn, 1) := by decide +kernel
theorem dX9_cuts_17 : decode cX9_cuts 17 = .ok (.aload_n 0, 1) := by decide +kernel
theorem dX9_cuts_18 : decode cX9_cuts 18 = .ok (.getfield 29, 3) := by decide +kernel
theorem dX9_cuts_21 : decode cX9_cuts 21 = .ok (.getfield 114, 3) := by decide +kernel
theorem dX9_cuts_24 : decode cX9_cuts 24 = .ok (.iload_n 1, 1) := by decide +kernel
theorem dX9_cuts_25 : decode cX9_cuts 25 = .ok (.ishr, 1) := by decide +kernel
theorem dX9_cuts_26 : decode cX9_cuts 26 = .ok (.iconst 1, 1) := by decide +kernel
theorem dX9_cuts_27 : decode cX9_cuts 27 = .ok (.iand, 1) := by decide +kernel
theorem dX9_cuts_28 : decode cX9_cuts 28 = .ok (.iload_n 2, 1) := by decide +kernel
theorem dX9_cuts_29 : decode cX9_cuts 29 = .ok (.if_icmp .ne 6, 3) := by decide +kernel
theorem dX9_cuts_32 : decode cX9_cuts 32 = .ok (.bipush (-2), 2) := by decide +kernel
theorem dX9_cuts_34 : decode cX9_cuts 34 = .ok (.ireturn, 1) := by decide +kernel
theorem dX9_cuts_35 : decode cX9_cuts 35 = .ok (.aload_n 0, 1) := by decide +kernel
theorem dX9_cuts_36 : decode cX9_cuts 36 = .ok (.getfield 45, 3) := by decide +kernel
theorem dX9_cuts_39 : decode cX9_cuts 39 = .ok (.aload_n 0, 1) := by decide +kernel
theorem dX9_cuts_40 : decode cX9_cuts 40 = .ok (.getfield 29, 3) := by decide +kernel
theorem dX9_cuts_43 : decode cX9_cuts 43 = .ok (.invokevirtual 147, 3) := by decide +kernel
theorem dX9_cuts_46 : decode cX9_cuts 46 = .ok (.aload_n 0, 1) := by decide +kernel
theorem dX9_cuts_47 : decode cX9_cuts 47 = .ok (.getfield 29, 3) := by decide +kernel
theorem dX9_cuts_50 : decode cX9_cuts 50 = .ok (.dup, 1) := by decide +kernel
theorem dX9_cuts_51 : decode cX9_cuts 51 = .ok (.getfield 114, 3) := by decide +kernel
theorem dX9_cuts_54 : decode cX9_cuts 54 = .ok (.iconst 1, 1) := by decide +kernel
theorem dX9_cuts_55 : decode cX9_cuts 55 = .ok (.iload_n 1, 1) := by decide +kernel
theorem dX9_cuts_56 : decode cX9_cuts 56 = .ok (.ishl, 1) := by decide +kernel
theorem dX9_cuts_57 : decode cX9_cuts 57 = .ok (.ixor, 1) := by decide +kernel
theorem dX9_cuts_58 : decode cX9_cuts 58 = .ok (.putfield 114, 3) := by decide +kernel
theorem dX9_cuts_61 : decode cX9_cuts 61 = .ok (.aload_n 0, 1) := by decide +kernel
theorem dX9_cuts_62 : decode cX9_cuts 62 = .ok (.getfield 29, 3) := by decide +kernel
theorem dX9_cuts_65 : decode cX9_cuts 65 = .ok (.getfield 114, 3) := by decide +kernel
theorem dX9_cuts_68 : decode cX9_cuts 68 = .ok (.invokestatic 161, 3) := by decide +kernel
theorem dX9_cuts_71 : decode cX9_cuts 71 = .ok (.ireturn, 1) := by decide +kernel
theorem dX9_tunes_0 : decode cX9_tunes 0 = .ok (.aload_n 0, 1) := by decide +kernel
theorem dX9_tunes_1 : decode cX9_tunes 1 = .ok (.iload_n 1, 1) := by decide +kernel
theorem dX9_tunes_2 : decode cX9_tunes 2 = .ok (.invokevirtual 101, 3) := by decide +kernel
theorem dX9_tunes_5 : decode cX9_tunes 5 = .ok (.ifCond .eq 14, 3) := by decide +kernel
theorem dX9_tunes_8 : decode cX9_tunes 8 = .ok (.iload_n 2, 1) := by decide +kernel
theorem dX9_tunes_9 : decode cX9_tunes 9 = .ok (.iconst 1, 1) := by decide +kernel
theorem dX9_tunes_10 : decode cX9_tunes 10 = .ok (.if_icmp .lt 9, 3) := by decide +kernel
theorem dX9_tunes_13 : decode cX9_tunes 13 = .ok (.iload_n 2, 1) := by decide +kernel
theorem dX9_tunes_14 : decode cX9_tunes 14 = .ok (.bipush 40, 2) := by decide +kernel
theorem dX9_tunes_16 : decode cX9_tunes 16 = .ok (.if_icmp .le 5, 3) := by decide +kernel
theorem dX9_tunes_19 : decode cX9_tunes 19 = .ok (.iconst (-1), 1) := by decide +kernel
theorem dX9_tunes_20 : decode cX9_tunes 20 = .ok (.ireturn, 1) := by decide +kernel
theorem dX9_tunes_21 : decode cX9_tunes 21 = .ok (.aload_n 0, 1) := by decide +kernel
theorem dX9_tunes_22 : decode cX9_tunes 22 = .ok (.getfield 29, 3) := by decide +kernel
theorem dX9_tunes_25 : decode cX9_tunes 25 = .ok (.getfield 111, 3) := by decide +kernel
theorem dX9_tunes_28 : decode cX9_tunes 28 = .ok (.iload_n 1, 1) := by decide +kernel
theorem dX9_tunes_29 : decode cX9_tunes 29 = .ok (.iaload, 1) := by decide +kernel
theorem dX9_tunes_30 : decode cX9_tunes 30 = .ok (.istore_n 3, 1) := by decide +kernel
theorem dX9_tunes_31 : decode cX9_tunes 31 = .ok (.iload_n 3, 1) := by decide +kernel
theorem dX9_tunes_32 : decode cX9_tunes 32 = .ok (.ifCond .eq 8, 3) := by decide +kernel
theorem dX9_tunes_35 : decode cX9_tunes 35 = .ok (.iload_n 3, 1) := by decide +kernel
theorem dX9_tunes_36 : decode cX9_tunes 36 = .ok (.iload_n 2, 1) := by decide +kernel
theorem dX9_tunes_37 : decode cX9_tunes 37 = .ok (.if_icmp .ne 6, 3) := by decide +kernel
theorem dX9_tunes_40 : decode cX9_tunes 40 = .ok (.bipush (-2), 2) := by decide +kernel
theorem dX9_tunes_42 : decode cX9_tunes 42 = .ok (.ireturn, 1) := by decide +kernel
theorem dX9_tunes_43 : decode cX9_tunes 43 = .ok (.aload_n 0, 1) := by decide +kernel
theorem dX9_tunes_44 : decode cX9_tunes 44 = .ok (.getfield 45, 3) := by decide +kernel
theorem dX9_tunes_47 : decode cX9_tunes 47 = .ok (.aload_n 0, 1) := by decide +kernel
theorem dX9_tunes_48 : decode cX9_tunes 48 = .ok (.getfield 29, 3) := by decide +kernel
theorem dX9_tunes_51 : decode cX9_tunes 51 = .ok (.invokevirtual 147, 3) := by decide +kernel
theorem dX9_tunes_54 : decode cX9_tunes 54 = .ok (.aload_n 0, 1) := by decide +kernel
theorem dX9_tunes_55 : decode cX9_tunes 55 = .ok (.getfield 29, 3) := by decide +kernel
theorem dX9_tunes_58 : decode cX9_tunes 58 = .ok (.getfield 111, 3) := by decide +kernel
theorem dX9_tunes_61 : decode cX9_tunes 61 = .ok (.iload_n 1, 1) := by decide +kernel
theorem dX9_tunes_62 : decode cX9_tunes 62 = .ok (.iload_n 2, 1) := by decide +kernel
theorem dX9_tunes_63 : decode cX9_tunes 63 = .ok (.iastore, 1) := by decide +kernel
theorem dX9_tunes_64 : decode cX9_tunes 64 = .ok (.iload_n 3, 1) := by decide +kernel
theorem dX9_tunes_65 : decode cX9_tunes 65 = .ok (.ireturn, 1) := by decide +kernel
theorem dX9_lays_0 : decode cX9_lays 0 = .ok (.iload_n 1, 1) := by decide +kernel
theorem dX9_lays_1 : decode cX9_lays 1 = .ok (.invokestatic 158, 3) := by decide +kernel
theorem dX9_lays_4 : decode cX9_lays 4 = .ok (.ifCond .ne 5, 3) := by decide +kernel
theorem dX9_lays_7 : decode cX9_lays 7 = .ok (.iconst (-1), 1) := by decide +kernel
theorem dX9_lays_8 : decode cX9_lays 8 = .ok (.ireturn, 1) := by decide +kernel
theorem dX9_lays_9 : decode cX9_lays 9 = .ok (.aload_n 0, 1) := by decide +kernel
theorem dX9_lays_10 : decode cX9_lays 10 = .ok (.getfield 45, 3) := by decide +kernel
theorem dX9_lays_13 : decode cX9_lays 13 = .ok (.aload_n 0, 1) := by decide +kernel
theorem dX9_lays_14 : decode cX9_lays 14 = .ok (.getfield 29, 3) := by decide +kernel
theorem dX9_lays_17 : decode cX9_lays 17 = .ok (.invokevirtual 147, 3) := by decide +kernel
theorem dX9_lays_20 : decode cX9_lays 20 = .ok (.aload_n 0, 1) := by decide +kernel
theorem dX9_lays_21 : decode cX9_lays 21 = .ok (.getfield 29, 3) := by decide +kernel
theorem dX9_lays_24 : decode cX9_lays 24 = .ok (.getfield 117, 3) := by decide +kernel
theorem dX9_lays_27 : decode cX9_lays 27 = .ok (.istore_n 2, 1) := by decide +kernel
theorem dX9_lays_28 : decode cX9_lays 28 = .ok (.aload_n 0, 1) := by decide +kernel
theorem dX9_lays_29 : decode cX9_lays 29 = .ok (.getfield 29, 3) := by decide +kernel
theorem dX9_lays_32 : decode cX9_lays 32 = .ok (.iload_n 1, 1) := by decide +kernel
theorem dX9_lays_33 : decode cX9_lays 33 = .ok (.iconst 1, 1) := by decide +kernel
theorem dX9_lays_34 : decode cX9_lays 34 = .ok (.if_icmp .ne 17, 3) := by decide +kernel
theorem dX9_lays_37 : decode cX9_lays 37 = .ok (.iconst 1, 1) := by decide +kernel
theorem dX9_lays_38 : decode cX9_lays 38 = .ok (.aload_n 0, 1) := by decide +kernel
theorem dX9_lays_39 : decode cX9_lays 39 = .ok (.getfield 19, 3) := by decide +kernel
theorem dX9_lays_42 : decode cX9_lays 42 = .ok (.getfield 167, 3) := by decide +kernel
theorem dX9_lays_45 : decode cX9_lays 45 = .ok (.ishl, 1) := by decide +kernel
theorem dX9_lays_46 : decode cX9_lays 46 = .ok (.iconst 1, 1) := by decide +kernel
theorem dX9_lays_47 : decode cX9_lays 47 = .ok (.isub, 1) := by decide +kernel
theorem dX9_lays_48 : decode cX9_lays 48 = .ok (.goto 4, 3) := by decide +kernel
theorem dX9_lays_51 : decode cX9_lays 51 = .ok (.iconst 0, 1) := by decide +kernel
theorem dX9_lays_52 : decode cX9_lays 52 = .ok (.putfield 117, 3) := by decide +kernel
theorem dX9_lays_55 : decode cX9_lays 55 = .ok (.iload_n 2, 1) := by decide +kernel
theorem dX9_lays_56 : decode cX9_lays 56 = .ok (.aload_n 0, 1) := by decide +kernel
theorem dX9_lays_57 : decode cX9_lays 57 = .ok (.getfield 29, 3) := by decide +kernel
theorem dX9_lays_60 : decode cX9_lays 60 = .ok (.getfield 117, 3) := by decide +kernel
theorem dX9_lays_63 : decode cX9_lays 63 = .ok (.ixor, 1) := by decide +kernel
theorem dX9_lays_64 : decode cX9_lays 64 = .ok (.invokestatic 161, 3) := by decide +kernel
theorem dX9_lays_67 : decode cX9_lays 67 = .ok (.ireturn, 1) := by decide +kernel
theorem dX9_rains_0 : decode cX9_rains 0 = .ok (.iload_n 1, 1) := by decide +kernel
theorem dX9_rains_1 : decode cX9_rains 1 = .ok (.bipush (-9), 2) := by decide +kernel
theorem dX9_rains_3 : decode cX9_rains 3 = .ok (.if_icmp .lt 13, 3) := by decide +kernel
theorem dX9_rains_6 : decode cX9_rains 6 = .ok (.iload_n 1, 1) := by decide +kernel
theorem dX9_rains_7 : decode cX9_rains 7 = .ok (.bipush 9, 2) := by decide +kernel
theorem dX9_rains_9 : decode cX9_rains 9 = .ok (.if_icmp .gt 7, 3) := by decide +kernel
theorem dX9_rains_12 : decode cX9_rains 12 = .ok (.iload_n 1, 1) := by decide +kernel
theorem dX9_rains_13 : decode cX9_rains 13 = .ok (.ifCond .ne 5, 3) := by decide +kernel
theorem dX9_rains_16 : decode cX9_rains 16 = .ok (.iconst (-1), 1) := by decide +kernel
theorem dX9_rains_17 : decode cX9_rains 17 = .ok (.ireturn, 1) := by decide +kernel
theorem dX9_rains_18 : decode cX9_rains 18 = .ok (.aload_n 0, 1) := by decide +kernel
theorem dX9_rains_19 : decode cX9_rains 19 = .ok (.getfield 29, 3) := by decide +kernel
theorem dX9_rains_22 : decode cX9_rains 22 = .ok (.getfield 170, 3) := by decide +kernel
theorem dX9_rains_25 : decode cX9_rains 25 = .ok (.iload_n 1, 1) := by decide +kernel
theorem dX9_rains_26 : decode cX9_rains 26 = .ok (.iadd, 1) := by decide +kernel
theorem dX9_rains_27 : decode cX9_rains 27 = .ok (.istore_n 2, 1) := by decide +kernel
theorem dX9_rains_28 : decode cX9_rains 28 = .ok (.iload_n 2, 1) := by decide +kernel
theorem dX9_rains_29 : decode cX9_rains 29 = .ok (.ifCond .lt 9, 3) := by decide +kernel
theorem dX9_rains_32 : decode cX9_rains 32 = .ok (.iload_n 2, 1) := by decide +kernel
theorem dX9_rains_33 : decode cX9_rains 33 = .ok (.bipush 9, 2) := by decide +kernel
theorem dX9_rains_35 : decode cX9_rains 35 = .ok (.if_icmp .le 6, 3) := by decide +kernel
theorem dX9_rains_38 : decode cX9_rains 38 = .ok (.bipush (-2), 2) := by decide +kernel
theorem dX9_rains_40 : decode cX9_rains 40 = .ok (.ireturn, 1) := by decide +kernel
theorem dX9_rains_41 : decode cX9_rains 41 = .ok (.aload_n 0, 1) := by decide +kernel
theorem dX9_rains_42 : decode cX9_rains 42 = .ok (.getfield 45, 3) := by decide +kernel
theorem dX9_rains_45 : decode cX9_rains 45 = .ok (.aload_n 0, 1) := by decide +kernel
theorem dX9_rains_46 : decode cX9_rains 46 = .ok (.getfield 29, 3) := by decide +kernel
theorem dX9_rains_49 : decode cX9_rains 49 = .ok (.invokevirtual 147, 3) := by decide +kernel
theorem dX9_rains_52 : decode cX9_rains 52 = .ok (.aload_n 0, 1) := by decide +kernel
theorem dX9_rains_53 : decode cX9_rains 53 = .ok (.getfield 29, 3) := by decide +kernel
theorem dX9_rains_56 : decode cX9_rains 56 = .ok (.iload_n 2, 1) := by decide +kernel
theorem dX9_rains_57 : decode cX9_rains 57 = .ok (.putfield 170, 3) := by decide +kernel
theorem dX9_rains_60 : decode cX9_rains 60 = .ok (.iload_n 2, 1) := by decide +kernel
theorem dX9_rains_61 : decode cX9_rains 61 = .ok (.ireturn, 1) := by decide +kernel
theorem dX9_undo_0 : decode cX9_undo 0 = .ok (.aload_n 0, 1) := by decide +kernel
theorem dX9_undo_1 : decode cX9_undo 1 = .ok (.getfield 45, 3) := by decide +kernel
theorem dX9_undo_4 : decode cX9_undo 4 = .ok (.getfield 173, 3) := by decide +kernel
theorem dX9_undo_7 : decode cX9_undo 7 = .ok (.ifCond .ne 6, 3) := by decide +kernel
theorem dX9_undo_10 : decode cX9_undo 10 = .ok (.bipush (-2), 2) := by decide +kernel
theorem dX9_undo_12 : decode cX9_undo 12 = .ok (.ireturn, 1) := by decide +kernel
theorem dX9_undo_13 : decode cX9_undo 13 = .ok (.aload_n 0, 1) := by decide +kernel
theorem dX9_undo_14 : decode cX9_undo 14 = .ok (.getfield 45, 3) := by decide +kernel
theorem dX9_undo_17 : decode cX9_undo 17 = .ok (.aload_n 0, 1) := by decide +kernel
theorem dX9_undo_18 : decode cX9_undo 18 = .ok (.getfield 29, 3) := by decide +kernel
theorem dX9_undo_21 : decode cX9_undo 21 = .ok (.invokevirtual 176, 3) := by decide +kernel
theorem dX9_undo_24 : decode cX9_undo 24 = .ok (.aload_n 0, 1) := by decide +kernel
theorem dX9_undo_25 : decode cX9_undo 25 = .ok (.getfield 45, 3) := by decide +kernel
theorem dX9_undo_28 : decode cX9_undo 28 = .ok (.getfield 173, 3) := by decide +kernel
theorem dX9_undo_31 : decode cX9_undo 31 = .ok (.ireturn, 1) := by decide +kernel
theorem dX9_now_0 : decode cX9_now 0 = .ok (.iload_n 1, 1) := by decide +kernel
theorem dX9_now_1 : decode cX9_now 1 = .ok (.tableswitch 99 0 6 #[43, 51, 59, 67, 75, 83, 91], 43) := by decide +kernel
theorem dX9_now_44 : decode cX9_now 44 = .ok (.aload_n 0, 1) := by decide +kernel
theorem dX9_now_45 : decode cX9_now 45 = .ok (.getfield 29, 3) := by decide +kernel
theorem dX9_now_48 : decode cX9_now 48 = .ok (.getfield 170, 3) := by decide +kernel
theorem dX9_now_51 : decode cX9_now 51 = .ok (.ireturn, 1) := by decide +kernel
theorem dX9_now_52 : decode cX9_now 52 = .ok (.aload_n 0, 1) := by decide +kernel
theorem dX9_now_53 : decode cX9_now 53 = .ok (.getfield 29, 3) := by decide +kernel
theorem dX9_now_56 : decode cX9_now 56 = .ok (.getfield 114, 3) := by decide +kernel
theorem dX9_now_59 : decode cX9_now 59 = .ok (.ireturn, 1) := by decide +kernel
theorem dX9_now_60 : decode cX9_now 60 = .ok (.aload_n 0, 1) := by decide +kernel
theorem dX9_now_61 : decode cX9_now 61 = .ok (.getfield 29, 3) := by decide +kernel
theorem dX9_now_64 : decode cX9_now 64 = .ok (.getfield 117, 3) := by decide +kernel
theorem dX9_now_67 : decode cX9_now 67 = .ok (.ireturn, 1) := by decide +kernel
theorem dX9_now_68 : decode cX9_now 68 = .ok (.aload_n 0, 1) := by decide +kernel
theorem dX9_now_69 : decode cX9_now 69 = .ok (.getfield 29, 3) := by decide +kernel
theorem dX9_now_72 : decode cX9_now 72 = .ok (.getfield 179, 3) := by decide +kernel
theorem dX9_now_75 : decode cX9_now 75 = .ok (.ireturn, 1) := by decide +kernel
theorem dX9_now_76 : decode cX9_now 76 = .ok (.aload_n 0, 1) := by decide +kernel
theorem dX9_now_77 : decode cX9_now 77 = .ok (.getfield 74, 3) := by decide +kernel
theorem dX9_now_80 : decode cX9_now 80 = .ok (.invokevirtual 182, 3) := by decide +kernel
theorem dX9_now_83 : decode cX9_now 83 = .ok (.ireturn, 1) := by decide +kernel
theorem dX9_now_84 : decode cX9_now 84 = .ok (.aload_n 0, 1) := by decide +kernel
theorem dX9_now_85 : decode cX9_now 85 = .ok (.getfield 74, 3) := by decide +kernel
theorem dX9_now_88 : decode cX9_now 88 = .ok (.invokevirtual 186, 3) := by decide +kernel
theorem dX9_now_91 : decode cX9_now 91 = .ok (.ireturn, 1) := by decide +kernel
theorem dX9_now_92 : decode cX9_now 92 = .ok (.aload_n 0, 1) := by decide +kernel
theorem dX9_now_93 : decode cX9_now 93 = .ok (.getfield 74, 3) := by decide +kernel
theorem dX9_now_96 : decode cX9_now 96 = .ok (.invokevirtual 189, 3) := by decide +kernel
theorem dX9_now_99 : decode cX9_now 99 = .ok (.ireturn, 1) := by decide +kernel
theorem dX9_now_100 : decode cX9_now 100 = .ok (.iconst (-1), 1) := by decide +kernel
theorem dX9_now_101 : decode cX9_now 101 = .ok (.ireturn, 1) := by decide +kernel
theorem dX9_song_0 : decode cX9_song 0 = .ok (.iload_n 1, 1) := by decide +kernel
theorem dX9_song_1 : decode cX9_song 1 = .ok (.ifCond .lt 9, 3) := by decide +kernel
theorem dX9_song_4 : decode cX9_song 4 = .ok (.iload_n 1, 1) := by decide +kernel
theorem dX9_song_5 : decode cX9_song 5 = .ok (.bipush 12, 2) := by decide +kernel
theorem dX9_song_7 : decode cX9_song 7 = .ok (.if_icmp .lt 5, 3) := by decide +kernel
theorem dX9_song_10 : decode cX9_song 10 = .ok (.iconst (-1), 1) := by decide +kernel
theorem dX9_song_11 : decode cX9_song 11 = .ok (.ireturn, 1) := by decide +kernel
theorem dX9_song_12 : decode cX9_song 12 = .ok (.iload_n 1, 1) := by decide +kernel
theorem dX9_song_13 : decode cX9_song 13 = .ok (.aload_n 0, 1) := by decide +kernel
theorem dX9_song_14 : decode cX9_song 14 = .ok (.getfield 29, 3) := by decide +kernel
theorem dX9_song_17 : decode cX9_song 17 = .ok (.getfield 179, 3) := by decide +kernel
theorem dX9_song_20 : decode cX9_song 20 = .ok (.if_icmp .ge 15, 3) := by decide +kernel
theorem dX9_song_23 : decode cX9_song 23 = .ok (.aload_n 0, 1) := by decide +kernel
theorem dX9_song_24 : decode cX9_song 24 = .ok (.getfield 29, 3) := by decide +kernel
theorem dX9_song_27 : decode cX9_song 27 = .ok (.getfield 192, 3) := by decide +kernel
theorem dX9_song_30 : decode cX9_song 30 = .ok (.iload_n 1, 1) := by decide +kernel
theorem dX9_song_31 : decode cX9_song 31 = .ok (.iaload, 1) := by decide +kernel
theorem dX9_song_32 : decode cX9_song 32 = .ok (.goto 5, 3) := by decide +kernel
theorem dX9_song_35 : decode cX9_song 35 = .ok (.bipush (-9), 2) := by decide +kernel
theorem dX9_song_37 : decode cX9_song 37 = .ok (.ireturn, 1) := by decide +kernel
theorem dX9_who_0 : decode cX9_who 0 = .ok (.iload_n 1, 1) := by decide +kernel
theorem dX9_who_1 : decode cX9_who 1 = .ok (.ifCond .lt 9, 3) := by decide +kernel
theorem dX9_who_4 : decode cX9_who 4 = .ok (.iload_n 1, 1) := by decide +kernel
theorem dX9_who_5 : decode cX9_who 5 = .ok (.bipush 43, 2) := by decide +kernel
theorem dX9_who_7 : decode cX9_who 7 = .ok (.if_icmp .le 7, 3) := by decide +kernel
theorem dX9_who_10 : decode cX9_who 10 = .ok (.iconst (-1), 1) := by decide +kernel
theorem dX9_who_11 : decode cX9_who 11 = .ok (.goto 11, 3) := by decide +kernel
theorem dX9_who_14 : decode cX9_who 14 = .ok (.aload_n 0, 1) := by decide +kernel
theorem dX9_who_15 : decode cX9_who 15 = .ok (.getfield 38, 3) := by decide +kernel
theorem dX9_who_18 : decode cX9_who 18 = .ok (.iload_n 1, 1) := by decide +kernel
theorem dX9_who_19 : decode cX9_who 19 = .ok (.invokevirtual 195, 3) := by decide +kernel
theorem dX9_who_22 : decode cX9_who 22 = .ok (.ireturn, 1) := by decide +kernel
theorem dX9_hears_0 : decode cX9_hears 0 = .ok (.iload_n 1, 1) := by decide +kernel
theorem dX9_hears_1 : decode cX9_hears 1 = .ok (.iconst 1, 1) := by decide +kernel
theorem dX9_hears_2 : decode cX9_hears 2 = .ok (.if_icmp .lt 9, 3) := by decide +kernel
theorem dX9_hears_5 : decode cX9_hears 5 = .ok (.iload_n 1, 1) := by decide +kernel
theorem dX9_hears_6 : decode cX9_hears 6 = .ok (.bipush 43, 2) := by decide +kernel
theorem dX9_hears_8 : decode cX9_hears 8 = .ok (.if_icmp .le 5, 3) := by decide +kernel
theorem dX9_hears_11 : decode cX9_hears 11 = .ok (.iconst (-1), 1) := by decide +kernel
theorem dX9_hears_12 : decode cX9_hears 12 = .ok (.ireturn, 1) := by decide +kernel
theorem dX9_hears_13 : decode cX9_hears 13 = .ok (.aload_n 0, 1) := by decide +kernel
theorem dX9_hears_14 : decode cX9_hears 14 = .ok (.getfield 60, 3) := by decide +kernel
theorem dX9_hears_17 : decode cX9_hears 17 = .ok (.iload_n 1, 1) := by decide +kernel
theorem dX9_hears_18 : decode cX9_hears 18 = .ok (.invokevirtual 198, 3) := by decide +kernel
theorem dX9_hears_21 : decode cX9_hears 21 = .ok (.ifCond .eq 13, 3) := by decide +kernel
theorem dX9_hears_24 : decode cX9_hears 24 = .ok (.aload_n 0, 1) := by decide +kernel
theorem dX9_hears_25 : decode cX9_hears 25 = .ok (.getfield 60, 3) := by decide +kernel
theorem dX9_hears_28 : decode cX9_hears 28 = .ok (.getfield 199, 3) := by decide +kernel
theorem dX9_hears_31 : decode cX9_hears 31 = .ok (.goto 5, 3) := by decide +kernel
theorem dX9_hears_34 : decode cX9_hears 34 = .ok (.bipush (-3), 2) := by decide +kernel
theorem dX9_hears_36 : decode cX9_hears 36 = .ok (.ireturn, 1) := by decide +kernel
theorem dX9_forget_0 : decode cX9_forget 0 = .ok (.aload_n 0, 1) := by decide +kernel
theorem dX9_forget_1 : decode cX9_forget 1 = .ok (.getfield 60, 3) := by decide +kernel
theorem dX9_forget_4 : decode cX9_forget 4 = .ok (.getfield 199, 3) := by decide +kernel
theorem dX9_forget_7 : decode cX9_forget 7 = .ok (.istore_n 1, 1) := by decide +kernel
theorem dX9_forget_8 : decode cX9_forget 8 = .ok (.aload_n 0, 1) := by decide +kernel
theorem dX9_forget_9 : decode cX9_forget 9 = .ok (.getfield 60, 3) := by decide +kernel
theorem dX9_forget_12 : decode cX9_forget 12 = .ok (.iconst 0, 1) := by decide +kernel
theorem dX9_forget_13 : decode cX9_forget 13 = .ok (.putfield 199, 3) := by decide +kernel
theorem dX9_forget_16 : decode cX9_forget 16 = .ok (.iload_n 1, 1) := by decide +kernel
theorem dX9_forget_17 : decode cX9_forget 17 = .ok (.ireturn, 1) := by decide +kernel
theorem dX9_ways_0 : decode cX9_ways 0 = .ok (.aload_n 0, 1) := by decide +kernel
theorem dX9_ways_1 : decode cX9_ways 1 = .ok (.iload_n 1, 1) := by decide +kernel
theorem dX9_ways_2 : decode cX9_ways 2 = .ok (.invokevirtual 120, 3) := by decide +kernel
theorem dX9_ways_5 : decode cX9_ways 5 = .ok (.ifCond .eq 23, 3) := by decide +kernel
theorem dX9_ways_8 : decode cX9_ways 8 = .ok (.aload_n 0, 1) := by decide +kernel
theorem dX9_ways_9 : decode cX9_ways 9 = .ok (.iload_n 2, 1) := by decide +kernel
theorem dX9_ways_10 : decode cX9_ways 10 = .ok (.invokevirtual 202, 3) := by decide +kernel
theorem dX9_ways_13 : decode cX9_ways 13 = .ok (.ifCond .eq 15, 3) := by decide +kernel
theorem dX9_ways_16 : decode cX9_ways 16 = .ok (.aload_n 0, 1) := by decide +kernel
theorem dX9_ways_17 : decode cX9_ways 17 = .ok (.getfield 60, 3) := by decide +kernel
theorem dX9_ways_20 : decode cX9_ways 20 = .ok (.iload_n 1, 1) := by decide +kernel
theorem dX9_ways_21 : decode cX9_ways 21 = .ok (.iload_n 2, 1) := by decide +kernel
theorem dX9_ways_22 : decode cX9_ways 22 = .ok (.invokevirtual 205, 3) := by decide +kernel
theorem dX9_ways_25 : decode cX9_ways 25 = .ok (.goto 4, 3) := by decide +kernel
theorem dX9_ways_28 : decode cX9_ways 28 = .ok (.iconst (-1), 1) := by decide +kernel
theorem dX9_ways_29 : decode cX9_ways 29 = .ok (.ireturn, 1) := by decide +kernel
theorem dX9_ends_0 : decode cX9_ends 0 = .ok (.aload_n 0, 1) := by decide +kernel
theorem dX9_ends_1 : decode cX9_ends 1 = .ok (.iload_n 1, 1) := by decide +kernel
theorem dX9_ends_2 : decode cX9_ends 2 = .ok (.invokevirtual 120, 3) := by decide +kernel
theorem dX9_ends_5 : decode cX9_ends 5 = .ok (.ifCond .eq 14, 3) := by decide +kernel
theorem dX9_ends_8 : decode cX9_ends 8 = .ok (.aload_n 0, 1) := by decide +kernel
theorem dX9_ends_9 : decode cX9_ends 9 = .ok (.getfield 60, 3) := by decide +kernel
theorem dX9_ends_12 : decode cX9_ends 12 = .ok (.iload_n 1, 1) := by decide +kernel
theorem dX9_ends_13 : decode cX9_ends 13 = .ok (.invokevirtual 208, 3) := by decide +kernel
theorem dX9_ends_16 : decode cX9_ends 16 = .ok (.goto 4, 3) := by decide +kernel
theorem dX9_ends_19 : decode cX9_ends 19 = .ok (.iconst (-1), 1) := by decide +kernel
theorem dX9_ends_20 : decode cX9_ends 20 = .ok (.ireturn, 1) := by decide +kernel
theorem dX9_can_0 : decode cX9_can 0 = .ok (.aload_n 0, 1) := by decide +kernel
theorem dX9_can_1 : decode cX9_can 1 = .ok (.getfield 60, 3) := by decide +kernel
theorem dX9_can_4 : decode cX9_can 4 = .ok (.invokevirtual 211, 3) := by decide +kernel
theorem dX9_can_7 : decode cX9_can 7 = .ok (.ireturn, 1) := by decide +kernel
theorem dX9_ask_0 : decode cX9_ask 0 = .ok (.aload_n 0, 1) := by decide +kernel
theorem dX9_ask_1 : decode cX9_ask 1 = .ok (.getfield 60, 3) := by decide +kernel
theorem dX9_ask_4 : decode cX9_ask 4 = .ok (.invokevirtual 214, 3) := by decide +kernel
theorem dX9_ask_7 : decode cX9_ask 7 = .ok (.ireturn, 1) := by decide +kernel
theorem dX9_quiet_0 : decode cX9_quiet 0 = .ok (.aload_n 0, 1) := by decide +kernel
theorem dX9_quiet_1 : decode cX9_quiet 1 = .ok (.iload_n 1, 1) := by decide +kernel
theorem dX9_quiet_2 : decode cX9_quiet 2 = .ok (.invokevirtual 120, 3) := by decide +kernel
theorem dX9_quiet_5 : decode cX9_quiet 5 = .ok (.ifCond .eq 19, 3) := by decide +kernel
theorem dX9_quiet_8 : decode cX9_quiet 8 = .ok (.aload_n 0, 1) := by decide +kernel
theorem dX9_quiet_9 : decode cX9_quiet 9 = .ok (.iload_n 2, 1) := by decide +kernel
theorem dX9_quiet_10 : decode cX9_quiet 10 = .ok (.invokevirtual 202, 3) := by decide +kernel
theorem dX9_quiet_13 : decode cX9_quiet 13 = .ok (.ifCond .eq 11, 3) := by decide +kernel
theorem dX9_quiet_16 : decode cX9_quiet 16 = .ok (.aload_n 0, 1) := by decide +kernel
theorem dX9_quiet_17 : decode cX9_quiet 17 = .ok (.iload_n 3, 1) := by decide +kernel
theorem dX9_quiet_18 : decode cX9_quiet 18 = .ok (.invokevirtual 202, 3) := by decide +kernel
theorem dX9_quiet_21 : decode cX9_quiet 21 = .ok (.ifCond .ne 5, 3) := by decide +kernel
theorem dX9_quiet_24 : decode cX9_quiet 24 = .ok (.iconst (-1), 1) := by decide +kernel
theorem dX9_quiet_25 : decode cX9_quiet 25 = .ok (.ireturn, 1) := by decide +kernel
theorem dX9_quiet_26 : decode cX9_quiet 26 = .ok (.iload 4, 2) := by decide +kernel
theorem dX9_quiet_28 : decode cX9_quiet 28 = .ok (.tableswitch 61 0 2 #[28, 39, 50], 28) := by decide +kernel
theorem dX9_quiet_56 : decode cX9_quiet 56 = .ok (.aload_n 0, 1) := by decide +kernel
theorem dX9_quiet_57 : decode cX9_quiet 57 = .ok (.getfield 67, 3) := by decide +kernel
theorem dX9_quiet_60 : decode cX9_quiet 60 = .ok (.iload_n 1, 1) := by decide +kernel
theorem dX9_quiet_61 : decode cX9_quiet 61 = .ok (.iload_n 2, 1) := by decide +kernel
theorem dX9_quiet_62 : decode cX9_quiet 62 = .ok (.iload_n 3, 1) := by decide +kernel
theorem dX9_quiet_63 : decode cX9_quiet 63 = .ok (.invokevirtual 217, 3) := by decide +kernel
theorem dX9_quiet_66 : decode cX9_quiet 66 = .ok (.ireturn, 1) := by decide +kernel
theorem dX9_quiet_67 : decode cX9_quiet 67 = .ok (.aload_n 0, 1) := by decide +kernel
theorem dX9_quiet_68 : decode cX9_quiet 68 = .ok (.getfield 67, 3) := by decide +kernel
theorem dX9_quiet_71 : decode cX9_quiet 71 = .ok (.iload_n 1, 1) := by decide +kernel
theorem dX9_quiet_72 : decode cX9_quiet 72 = .ok (.iload_n 2, 1) := by decide +kernel
theorem dX9_quiet_73 : decode cX9_quiet 73 = .ok (.iload_n 3, 1) := by decide +kernel
theorem dX9_quiet_74 : decode cX9_quiet 74 = .ok (.invokevirtual 221, 3) := by decide +kernel
theorem dX9_quiet_77 : decode cX9_quiet 77 = .ok (.ireturn, 1) := by decide +kernel
theorem dX9_quiet_78 : decode cX9_quiet 78 = .ok (.aload_n 0, 1) := by decide +kernel
theorem dX9_quiet_79 : decode cX9_quiet 79 = .ok (.getfield 67, 3) := by decide +kernel
theorem dX9_quiet_82 : decode cX9_quiet 82 = .ok (.iload_n 1, 1) := by decide +kernel
theorem dX9_quiet_83 : decode cX9_quiet 83 = .ok (.iload_n 2, 1) := by decide +kernel
theorem dX9_quiet_84 : decode cX9_quiet 84 = .ok (.iload_n 3, 1) := by decide +kernel
theorem dX9_quiet_85 : decode cX9_quiet 85 = .ok (.invokevirtual 224, 3) := by decide +kernel
theorem dX9_quiet_88 : decode cX9_quiet 88 = .ok (.ireturn, 1) := by decide +kernel
theorem dX9_quiet_89 : decode cX9_quiet 89 = .ok (.iconst (-1), 1) := by decide +kernel
theorem dX9_quiet_90 : decode cX9_quiet 90 = .ok (.ireturn, 1) := by decide +kernel
theorem dX9_fifths_0 : decode cX9_fifths 0 = .ok (.aload_n 0, 1) := by decide +kernel
theorem dX9_fifths_1 : decode cX9_fifths 1 = .ok (.iload_n 1, 1) := by decide +kernel
theorem dX9_fifths_2 : decode cX9_fifths 2 = .ok (.invokevirtual 202, 3) := by decide +kernel
theorem dX9_fifths_5 : decode cX9_fifths 5 = .ok (.ifCond .eq 14, 3) := by decide +kernel
theorem dX9_fifths_8 : decode cX9_fifths 8 = .ok (.aload_n 0, 1) := by decide +kernel
theorem dX9_fifths_9 : decode cX9_fifths 9 = .ok (.getfield 38, 3) := by decide +kernel
theorem dX9_fifths_12 : decode cX9_fifths 12 = .ok (.iload_n 1, 1) := by decide +kernel
theorem dX9_fifths_13 : decode cX9_fifths 13 = .ok (.invokevirtual 227, 3) := by decide +kernel
theorem dX9_fifths_16 : decode cX9_fifths 16 = .ok (.goto 4, 3) := by decide +kernel
theorem dX9_fifths_19 : decode cX9_fifths 19 = .ok (.iconst (-1), 1) := by decide +kernel
theorem dX9_fifths_20 : decode cX9_fifths 20 = .ok (.ireturn, 1) := by decide +kernel
theorem dX9_herd_0 : decode cX9_herd 0 = .ok (.iload_n 1, 1) := by decide +kernel
theorem dX9_herd_1 : decode cX9_herd 1 = .ok (.iconst (-1), 1) := by decide +kernel
theorem dX9_herd_2 : decode cX9_herd 2 = .ok (.if_icmp .eq 13, 3) := by decide +kernel
theorem dX9_herd_5 : decode cX9_herd 5 = .ok (.aload_n 0, 1) := by decide +kernel
theorem dX9_herd_6 : decode cX9_herd 6 = .ok (.iload_n 1, 1) := by decide +kernel
theorem dX9_herd_7 : decode cX9_herd 7 = .ok (.invokevirtual 130, 3) := by decide +kernel
theorem dX9_herd_10 : decode cX9_herd 10 = .ok (.ifCond .ne 5, 3) := by decide +kernel
theorem dX9_herd_13 : decode cX9_herd 13 = .ok (.iconst (-1), 1) := by decide +kernel
theorem dX9_herd_14 : decode cX9_herd 14 = .ok (.ireturn, 1) := by decide +kernel
theorem dX9_herd_15 : decode cX9_herd 15 = .ok (.aload_n 0, 1) := by decide +kernel
theorem dX9_herd_16 : decode cX9_herd 16 = .ok (.getfield 19, 3) := by decide +kernel
theorem dX9_herd_19 : decode cX9_herd 19 = .ok (.getfield 230, 3) := by decide +kernel
theorem dX9_herd_22 : decode cX9_herd 22 = .ok (.aload_n 0, 1) := by decide +kernel
theorem dX9_herd_23 : decode cX9_herd 23 = .ok (.getfield 19, 3) := by decide +kernel
theorem dX9_herd_26 : decode cX9_herd 26 = .ok (.getfield 233, 3) := by decide +kernel
theorem dX9_herd_29 : decode cX9_herd 29 = .ok (.if_icmp .le 6, 3) := by decide +kernel
theorem dX9_herd_32 : decode cX9_herd 32 = .ok (.bipush (-9), 2) := by decide +kernel
theorem dX9_herd_34 : decode cX9_herd 34 = .ok (.ireturn, 1) := by decide +kernel
theorem dX9_herd_35 : decode cX9_herd 35 = .ok (.iload_n 1, 1) := by decide +kernel
theorem dX9_herd_36 : decode cX9_herd 36 = .ok (.iconst (-1), 1) := by decide +kernel
theorem dX9_herd_37 : decode cX9_herd 37 = .ok (.if_icmp .ne 13, 3) := by decide +kernel
theorem dX9_herd_40 : decode cX9_herd 40 = .ok (.aload_n 0, 1) := by decide +kernel
theorem dX9_herd_41 : decode cX9_herd 41 = .ok (.getfield 74, 3) := by decide +kernel
theorem dX9_herd_44 : decode cX9_herd 44 = .ok (.invokevirtual 236, 3) := by decide +kernel
theorem dX9_herd_47 : decode cX9_herd 47 = .ok (.goto 11, 3) := by decide +kernel
theorem dX9_herd_50 : decode cX9_herd 50 = .ok (.aload_n 0, 1) := by decide +kernel
theorem dX9_herd_51 : decode cX9_herd 51 = .ok (.getfield 74, 3) := by decide +kernel
theorem dX9_herd_54 : decode cX9_herd 54 = .ok (.iload_n 1, 1) := by decide +kernel
theorem dX9_herd_55 : decode cX9_herd 55 = .ok (.invokevirtual 239, 3) := by decide +kernel
theorem dX9_herd_58 : decode cX9_herd 58 = .ok (.ireturn, 1) := by decide +kernel
theorem dX9_frost_0 : decode cX9_frost 0 = .ok (.aload_n 0, 1) := by decide +kernel
theorem dX9_frost_1 : decode cX9_frost 1 = .ok (.iload_n 1, 1) := by decide +kernel
theorem dX9_frost_2 : decode cX9_frost 2 = .ok (.invokevirtual 120, 3) := by decide +kernel
theorem dX9_frost_5 : decode cX9_frost 5 = .ok (.ifCond .eq 27, 3) := by decide +kernel
theorem dX9_frost_8 : decode cX9_frost 8 = .ok (.aload_n 0, 1) := by decide +kernel
theorem dX9_frost_9 : decode cX9_frost 9 = .ok (.iload_n 2, 1) := by decide +kernel
theorem dX9_frost_10 : decode cX9_frost 10 = .ok (.invokevirtual 202, 3) := by decide +kernel
theorem dX9_frost_13 : decode cX9_frost 13 = .ok (.ifCond .eq 19, 3) := by decide +kernel
theorem dX9_frost_16 : decode cX9_frost 16 = .ok (.aload_n 0, 1) := by decide +kernel
theorem dX9_frost_17 : decode cX9_frost 17 = .ok (.iload_n 3, 1) := by decide +kernel
theorem dX9_frost_18 : decode cX9_frost 18 = .ok (.invokevirtual 202, 3) := by decide +kernel
theorem dX9_frost_21 : decode cX9_frost 21 = .ok (.ifCond .eq 11, 3) := by decide +kernel
theorem dX9_frost_24 : decode cX9_frost 24 = .ok (.iload 6, 2) := by decide +kernel
theorem dX9_frost_26 : decode cX9_frost 26 = .ok (.invokestatic 158, 3) := by decide +kernel
theorem dX9_frost_29 : decode cX9_frost 29 = .ok (.ifCond .ne 5, 3) := by decide +kernel
theorem dX9_frost_32 : decode cX9_frost 32 = .ok (.iconst (-1), 1) := by decide +kernel
theorem dX9_frost_33 : decode cX9_frost 33 = .ok (.ireturn, 1) := by decide +kernel
theorem dX9_frost_34 : decode cX9_frost 34 = .ok (.iload 4, 2) := by decide +kernel
theorem dX9_frost_36 : decode cX9_frost 36 = .ok (.ifCond .lt 22, 3) := by decide +kernel
theorem dX9_frost_39 : decode cX9_frost 39 = .ok (.iload 4, 2) := by decide +kernel
theorem dX9_frost_41 : decode cX9_frost 41 = .ok (.bipush 40, 2) := by decide +kernel
theorem dX9_frost_43 : decode cX9_frost 43 = .ok (.if_icmp .gt 15, 3) := by decide +kernel
theorem dX9_frost_46 : decode cX9_frost 46 = .ok (.iload 5, 2) := by decide +kernel
theorem dX9_frost_48 : decode cX9_frost 48 = .ok (.ifCond .lt 10, 3) := by decide +kernel
theorem dX9_frost_51 : decode cX9_frost 51 = .ok (.iload 5, 2) := by decide +kernel
theorem dX9_frost_53 : decode cX9_frost 53 = .ok (.bipush 10, 2) := by decide +kernel
theorem dX9_frost_55 : decode cX9_frost 55 = .ok (.if_icmp .le 5, 3) := by decide +kernel
theorem dX9_frost_58 : decode cX9_frost 58 = .ok (.iconst (-1), 1) := by decide +kernel
theorem dX9_frost_59 : decode cX9_frost 59 = .ok (.ireturn, 1) := by decide +kernel
theorem dX9_frost_60 : decode cX9_frost 60 = .ok (.aload_n 0, 1) := by decide +kernel
theorem dX9_frost_61 : decode cX9_frost 61 = .ok (.getfield 67, 3) := by decide +kernel
theorem dX9_frost_64 : decode cX9_frost 64 = .ok (.iload_n 1, 1) := by decide +kernel
theorem dX9_frost_65 : decode cX9_frost 65 = .ok (.iload 4, 2) := by decide +kernel
theorem dX9_frost_67 : decode cX9_frost 67 = .ok (.invokevirtual 242, 3) := by decide +kernel
theorem dX9_frost_70 : decode cX9_frost 70 = .ok (.istore 7, 2) := by decide +kernel
theorem dX9_frost_72 : decode cX9_frost 72 = .ok (.aload_n 0, 1) := by decide +kernel
theorem dX9_frost_73 : decode cX9_frost 73 = .ok (.getfield 67, 3) := by decide +kernel
theorem dX9_frost_76 : decode cX9_frost 76 = .ok (.iload_n 2, 1) := by decide +kernel
theorem dX9_frost_77 : decode cX9_frost 77 = .ok (.iload_n 3, 1) := by decide +kernel
theorem dX9_frost_78 : decode cX9_frost 78 = .ok (.iload 5, 2) := by decide +kernel
theorem dX9_frost_80 : decode cX9_frost 80 = .ok (.invokevirtual 245, 3) := by decide +kernel
theorem dX9_frost_83 : decode cX9_frost 83 = .ok (.istore 8, 2) := by decide +kernel
theorem dX9_frost_85 : decode cX9_frost 85 = .ok (.iconst 1, 1) := by decide +kernel
theorem dX9_frost_86 : decode cX9_frost 86 = .ok (.iload 8, 2) := by decide +kernel
theorem dX9_frost_88 : decode cX9_frost 88 = .ok (.iload 7, 2) := by decide +kernel
theorem dX9_frost_90 : decode cX9_frost 90 = .ok (.invokestatic 248, 3) := by decide +kernel
theorem dX9_frost_93 : decode cX9_frost 93 = .ok (.invokestatic 251, 3) := by decide +kernel
theorem dX9_frost_96 : decode cX9_frost 96 = .ok (.istore 9, 2) := by decide +kernel
theorem dX9_frost_98 : decode cX9_frost 98 = .ok (.iload 6, 2) := by decide +kernel
theorem dX9_frost_100 : decode cX9_frost 100 = .ok (.ifCond .ne 8, 3) := by decide +kernel
theorem dX9_frost_103 : decode cX9_frost 103 = .ok (.iload 8, 2) := by decide +kernel
theorem dX9_frost_105 : decode cX9_frost 105 = .ok (.goto 5, 3) := by decide +kernel
theorem dX9_frost_108 : decode cX9_frost 108 = .ok (.iload 7, 2) := by decide +kernel
theorem dX9_frost_110 : decode cX9_frost 110 = .ok (.iload 9, 2) := by decide +kernel
theorem dX9_frost_112 : decode cX9_frost 112 = .ok (.idiv, 1) := by decide +kernel
theorem dX9_frost_113 : decode cX9_frost 113 = .ok (.ireturn, 1) := by decide +kernel
theorem dX9_mark_0 : decode cX9_mark 0 = .ok (.aload_n 0, 1) := by decide +kernel
theorem dX9_mark_1 : decode cX9_mark 1 = .ok (.iload_n 2, 1) := by decide +kernel
theorem dX9_mark_2 : decode cX9_mark 2 = .ok (.invokevirtual 101, 3) := by decide +kernel
theorem dX9_mark_5 : decode cX9_mark 5 = .ok (.ifCond .ne 6, 3) := by decide +kernel
theorem dX9_mark_8 : decode cX9_mark 8 = .ok (.ldc 123, 2) := by decide +kernel
theorem dX9_mark_10 : decode cX9_mark 10 = .ok (.ireturn, 1) := by decide +kernel
theorem dX9_mark_11 : decode cX9_mark 11 = .ok (.iload_n 1, 1) := by decide +kernel
theorem dX9_mark_12 : decode cX9_mark 12 = .ok (.tableswitch 76 0 5 #[40, 46, 52, 58, 64, 70], 40) := by decide +kernel
theorem dX9_mark_52 : decode cX9_mark 52 = .ok (.aload_n 0, 1) := by decide +kernel
theorem dX9_mark_53 : decode cX9_mark 53 = .ok (.iload_n 2, 1) := by decide +kernel
theorem dX9_mark_54 : decode cX9_mark 54 = .ok (.invokevirtual 256, 3) := by decide +kernel
theorem dX9_mark_57 : decode cX9_mark 57 = .ok (.ireturn, 1) := by decide +kernel
theorem dX9_mark_58 : decode cX9_mark 58 = .ok (.aload_n 0, 1) := by decide +kernel
theorem dX9_mark_59 : decode cX9_mark 59 = .ok (.iload_n 2, 1) := by decide +kernel
theorem dX9_mark_60 : decode cX9_mark 60 = .ok (.invokevirtual 259, 3) := by decide +kernel
theorem dX9_mark_63 : decode cX9_mark 63 = .ok (.ireturn, 1) := by decide +kernel
theorem dX9_mark_64 : decode cX9_mark 64 = .ok (.aload_n 0, 1) := by decide +kernel
theorem dX9_mark_65 : decode cX9_mark 65 = .ok (.iload_n 2, 1) := by decide +kernel
theorem dX9_mark_66 : decode cX9_mark 66 = .ok (.invokevirtual 262, 3) := by decide +kernel
theorem dX9_mark_69 : decode cX9_mark 69 = .ok (.ireturn, 1) := by decide +kernel
theorem dX9_mark_70 : decode cX9_mark 70 = .ok (.aload_n 0, 1) := by decide +kernel
theorem dX9_mark_71 : decode cX9_mark 71 = .ok (.iload_n 2, 1) := by decide +kernel
theorem dX9_mark_72 : decode cX9_mark 72 = .ok (.invokevirtual 265, 3) := by decide +kernel
theorem dX9_mark_75 : decode cX9_mark 75 = .ok (.ireturn, 1) := by decide +kernel
theorem dX9_mark_76 : decode cX9_mark 76 = .ok (.aload_n 0, 1) := by decide +kernel
theorem dX9_mark_77 : decode cX9_mark 77 = .ok (.iload_n 2, 1) := by decide +kernel
theorem dX9_mark_78 : decode cX9_mark 78 = .ok (.invokevirtual 268, 3) := by decide +kernel
theorem dX9_mark_81 : decode cX9_mark 81 = .ok (.ireturn, 1) := by decide +kernel
theorem dX9_mark_82 : decode cX9_mark 82 = .ok (.aload_n 0, 1) := by decide +kernel
theorem dX9_mark_83 : decode cX9_mark 83 = .ok (.iload_n 2, 1) := by decide +kernel
theorem dX9_mark_84 : decode cX9_mark 84 = .ok (.invokevirtual 271, 3) := by decide +kernel
theorem dX9_mark_87 : decode cX9_mark 87 = .ok (.ireturn, 1) := by decide +kernel
theorem dX9_mark_88 : decode cX9_mark 88 = .ok (.ldc 123, 2) := by decide +kernel
theorem dX9_mark_90 : decode cX9_mark 90 = .ok (.ireturn, 1) := by decide +kernel
theorem dX9_keep_0 : decode cX9_keep 0 = .ok (.iload_n 1, 1) := by decide +kernel
theorem dX9_keep_1 : decode cX9_keep 1 = .ok (.invokestatic 274, 3) := by decide +kernel
theorem dX9_keep_4 : decode cX9_keep 4 = .ok (.ifCond .ne 5, 3) := by decide +kernel
theorem dX9_keep_7 : decode cX9_keep 7 = .ok (.iconst (-1), 1) := by decide +kernel
theorem dX9_keep_8 : decode cX9_keep 8 = .ok (.ireturn, 1) := by decide +kernel
theorem dX9_keep_9 : decode cX9_keep 9 = .ok (.aload_n 0, 1) := by decide +kernel
theorem dX9_keep_10 : decode cX9_keep 10 = .ok (.getfield 51, 3) := by decide +kernel
theorem dX9_keep_13 : decode cX9_keep 13 = .ok (.iload_n 1, 1) := by decide +kernel
theorem dX9_keep_14 : decode cX9_keep 14 = .ok (.aaload, 1) := by decide +kernel
theorem dX9_keep_15 : decode cX9_keep 15 = .ok (.aload_n 0, 1) := by decide +kernel
theorem dX9_keep_16 : decode cX9_keep 16 = .ok (.getfield 29, 3) := by decide +kernel
theorem dX9_keep_19 : decode cX9_keep 19 = .ok (.aload_n 0, 1) := by decide +kernel
theorem dX9_keep_20 : decode cX9_keep 20 = .ok (.getfield 45, 3) := by decide +kernel
theorem dX9_keep_23 : decode cX9_keep 23 = .ok (.invokevirtual 277, 3) := by decide +kernel
theorem dX9_keep_26 : decode cX9_keep 26 = .ok (.aload_n 0, 1) := by decide +kernel
theorem dX9_keep_27 : decode cX9_keep 27 = .ok (.getfield 29, 3) := by decide +kernel
theorem dX9_keep_30 : decode cX9_keep 30 = .ok (.getfield 170, 3) := by decide +kernel
theorem dX9_keep_33 : decode cX9_keep 33 = .ok (.ireturn, 1) := by decide +kernel
theorem dX9_back_0 : decode cX9_back 0 = .ok (.iload_n 1, 1) := by decide +kernel
theorem dX9_back_1 : decode cX9_back 1 = .ok (.invokestatic 274, 3) := by decide +kernel
theorem dX9_back_4 : decode cX9_back 4 = .ok (.ifCond .ne 5, 3) := by decide +kernel
theorem dX9_back_7 : decode cX9_back 7 = .ok (.iconst (-1), 1) := by decide +kernel
theorem dX9_back_8 : decode cX9_back 8 = .ok (.ireturn, 1) := by decide +kernel
theorem dX9_back_9 : decode cX9_back 9 = .ok (.aload_n 0, 1) := by decide +kernel
theorem dX9_back_10 : decode cX9_back 10 = .ok (.getfield 51, 3) := by decide +kernel
theorem dX9_back_13 : decode cX9_back 13 = .ok (.iload_n 1, 1) := by decide +kernel
theorem dX9_back_14 : decode cX9_back 14 = .ok (.aaload, 1) := by decide +kernel
theorem dX9_back_15 : decode cX9_back 15 = .ok (.getfield 281, 3) := by decide +kernel
theorem dX9_back_18 : decode cX9_back 18 = .ok (.ifCond .ne 6, 3) := by decide +kernel
theorem dX9_back_21 : decode cX9_back 21 = .ok (.bipush (-2), 2) := by decide +kernel
theorem dX9_back_23 : decode cX9_back 23 = .ok (.ireturn, 1) := by decide +kernel
theorem dX9_back_24 : decode cX9_back 24 = .ok (.aload_n 0, 1) := by decide +kernel
theorem dX9_back_25 : decode cX9_back 25 = .ok (.getfield 51, 3) := by decide +kernel
theorem dX9_back_28 : decode cX9_back 28 = .ok (.iload_n 1, 1) := by decide +kernel
theorem dX9_back_29 : decode cX9_back 29 = .ok (.aaload, 1) := by decide +kernel
theorem dX9_back_30 : decode cX9_back 30 = .ok (.aload_n 0, 1) := by decide +kernel
theorem dX9_back_31 : decode cX9_back 31 = .ok (.getfield 29, 3) := by decide +kernel
theorem dX9_back_34 : decode cX9_back 34 = .ok (.aload_n 0, 1) := by decide +kernel
theorem dX9_back_35 : decode cX9_back 35 = .ok (.getfield 45, 3) := by decide +kernel
theorem dX9_back_38 : decode cX9_back 38 = .ok (.invokevirtual 285, 3) := by decide +kernel
theorem dX9_back_41 : decode cX9_back 41 = .ok (.aload_n 0, 1) := by decide +kernel
theorem dX9_back_42 : decode cX9_back 42 = .ok (.getfield 29, 3) := by decide +kernel
theorem dX9_back_45 : decode cX9_back 45 = .ok (.getfield 170, 3) := by decide +kernel
theorem dX9_back_48 : decode cX9_back 48 = .ok (.ireturn, 1) := by decide +kernel
theorem dX9_count_0 : decode cX9_count 0 = .ok (.iload_n 1, 1) := by decide +kernel
theorem dX9_count_1 : decode cX9_count 1 = .ok (.tableswitch 99 0 6 #[43, 51, 59, 67, 75, 83, 91], 43) := by decide +kernel
theorem dX9_count_44 : decode cX9_count 44 = .ok (.aload_n 0, 1) := by decide +kernel
theorem dX9_count_45 : decode cX9_count 45 = .ok (.getfield 19, 3) := by decide +kernel
theorem dX9_count_48 : decode cX9_count 48 = .ok (.getfield 233, 3) := by decide +kernel
theorem dX9_count_51 : decode cX9_count 51 = .ok (.ireturn, 1) := by decide +kernel
theorem dX9_count_52 : decode cX9_count 52 = .ok (.aload_n 0, 1) := by decide +kernel
theorem dX9_count_53 : decode cX9_count 53 = .ok (.getfield 19, 3) := by decide +kernel
theorem dX9_count_56 : decode cX9_count 56 = .ok (.getfield 167, 3) := by decide +kernel
theorem dX9_count_59 : decode cX9_count 59 = .ok (.ireturn, 1) := by decide +kernel
theorem dX9_count_60 : decode cX9_count 60 = .ok (.aload_n 0, 1) := by decide +kernel
theorem dX9_count_61 : decode cX9_count 61 = .ok (.getfield 19, 3) := by decide +kernel
theorem dX9_count_64 : decode cX9_count 64 = .ok (.getfield 288, 3) := by decide +kernel
theorem dX9_count_67 : decode cX9_count 67 = .ok (.ireturn, 1) := by decide +kernel
theorem dX9_count_68 : decode cX9_count 68 = .ok (.aload_n 0, 1) := by decide +kernel
theorem dX9_count_69 : decode cX9_count 69 = .ok (.getfield 19, 3) := by decide +kernel
theorem dX9_count_72 : decode cX9_count 72 = .ok (.getfield 230, 3) := by decide +kernel
theorem dX9_count_75 : decode cX9_count 75 = .ok (.ireturn, 1) := by decide +kernel
theorem dX9_count_76 : decode cX9_count 76 = .ok (.aload_n 0, 1) := by decide +kernel
theorem dX9_count_77 : decode cX9_count 77 = .ok (.getfield 60, 3) := by decide +kernel
theorem dX9_count_80 : decode cX9_count 80 = .ok (.getfield 199, 3) := by decide +kernel
theorem dX9_count_83 : decode cX9_count 83 = .ok (.ireturn, 1) := by decide +kernel
theorem dX9_count_84 : decode cX9_count 84 = .ok (.aload_n 0, 1) := by decide +kernel
theorem dX9_count_85 : decode cX9_count 85 = .ok (.getfield 45, 3) := by decide +kernel
theorem dX9_count_88 : decode cX9_count 88 = .ok (.getfield 173, 3) := by decide +kernel
theorem dX9_count_91 : decode cX9_count 91 = .ok (.ireturn, 1) := by decide +kernel
theorem dX9_count_92 : decode cX9_count 92 = .ok (.aload_n 0, 1) := by decide +kernel
theorem dX9_count_93 : decode cX9_count 93 = .ok (.getfield 10, 3) := by decide +kernel
theorem dX9_count_96 : decode cX9_count 96 = .ok (.getfield 89, 3) := by decide +kernel
theorem dX9_count_99 : decode cX9_count 99 = .ok (.ireturn, 1) := by decide +kernel
theorem dX9_count_100 : decode cX9_count 100 = .ok (.iconst (-1), 1) := by decide +kernel
theorem dX9_count_101 : decode cX9_count 101 = .ok (.ireturn, 1) := by decide +kernel
theorem dX9_trace_0 : decode cX9_trace 0 = .ok (.aload_n 0, 1) := by decide +kernel
theorem dX9_trace_1 : decode cX9_trace 1 = .ok (.getfield 291, 3) := by decide +kernel
theorem dX9_trace_4 : decode cX9_trace 4 = .ok (.lreturn, 1) := by decide +kernel
theorem dX9_beginAnew_0 : decode cX9_beginAnew 0 = .ok (.aload_n 0, 1) := by decide +kernel
theorem dX9_beginAnew_1 : decode cX9_beginAnew 1 = .ok (.getfield 29, 3) := by decide +kernel
theorem dX9_beginAnew_4 : decode cX9_beginAnew 4 = .ok (.aload_n 0, 1) := by decide +kernel
theorem dX9_beginAnew_5 : decode cX9_beginAnew 5 = .ok (.getfield 19, 3) := by decide +kernel
theorem dX9_beginAnew_8 : decode cX9_beginAnew 8 = .ok (.invokevirtual 295, 3) := by decide +kernel
theorem dX9_beginAnew_11 : decode cX9_beginAnew 11 = .ok (.aload_n 0, 1) := by decide +kernel
theorem dX9_beginAnew_12 : decode cX9_beginAnew 12 = .ok (.getfield 45, 3) := by decide +kernel
theorem dX9_beginAnew_15 : decode cX9_beginAnew 15 = .ok (.iconst 0, 1) := by decide +kernel
theorem dX9_beginAnew_16 : decode cX9_beginAnew 16 = .ok (.putfield 173, 3) := by decide +kernel
theorem dX9_beginAnew_19 : decode cX9_beginAnew 19 = .ok (.aload_n 0, 1) := by decide +kernel
theorem dX9_beginAnew_20 : decode cX9_beginAnew 20 = .ok (.getfield 60, 3) := by decide +kernel
theorem dX9_beginAnew_23 : decode cX9_beginAnew 23 = .ok (.iconst 0, 1) := by decide +kernel
theorem dX9_beginAnew_24 : decode cX9_beginAnew 24 = .ok (.putfield 199, 3) := by decide +kernel
theorem dX9_beginAnew_27 : decode cX9_beginAnew 27 = .ok (.iconst 0, 1) := by decide +kernel
theorem dX9_beginAnew_28 : decode cX9_beginAnew 28 = .ok (.istore_n 1, 1) := by decide +kernel
theorem dX9_beginAnew_29 : decode cX9_beginAnew 29 = .ok (.iload_n 1, 1) := by decide +kernel
theorem dX9_beginAnew_30 : decode cX9_beginAnew 30 = .ok (.iconst 2, 1) := by decide +kernel
theorem dX9_beginAnew_31 : decode cX9_beginAnew 31 = .ok (.if_icmp .ge 19, 3) := by decide +kernel
theorem dX9_beginAnew_34 : decode cX9_beginAnew 34 = .ok (.aload_n 0, 1) := by decide +kernel
theorem dX9_beginAnew_35 : decode cX9_beginAnew 35 = .ok (.getfield 51, 3) := by decide +kernel
theorem dX9_beginAnew_38 : decode cX9_beginAnew 38 = .ok (.iload_n 1, 1) := by decide +kernel
theorem dX9_beginAnew_39 : decode cX9_beginAnew 39 = .ok (.aaload, 1) := by decide +kernel
theorem dX9_beginAnew_40 : decode cX9_beginAnew 40 = .ok (.iconst 0, 1) := by decide +kernel
theorem dX9_beginAnew_41 : decode cX9_beginAnew 41 = .ok (.putfield 281, 3) := by decide +kernel
theorem dX9_beginAnew_44 : decode cX9_beginAnew 44 = .ok (.iinc 1 1, 3) := by decide +kernel
theorem dX9_beginAnew_47 : decode cX9_beginAnew 47 = .ok (.goto (-18), 3) := by decide +kernel
theorem dX9_beginAnew_50 : decode cX9_beginAnew 50 = .ok (.return_, 1) := by decide +kernel
theorem dX9_isField_0 : decode cX9_isField 0 = .ok (.iload_n 1, 1) := by decide +kernel
theorem dX9_isField_1 : decode cX9_isField 1 = .ok (.ifCond .lt 18, 3) := by decide +kernel
theorem dX9_isField_4 : decode cX9_isField 4 = .ok (.iload_n 1, 1) := by decide +kernel
theorem dX9_isField_5 : decode cX9_isField 5 = .ok (.aload_n 0, 1) := by decide +kernel
theorem dX9_isField_6 : decode cX9_isField 6 = .ok (.getfield 19, 3) := by decide +kernel
theorem dX9_isField_9 : decode cX9_isField 9 = .ok (.getfield 233, 3) := by decide +kernel
theorem dX9_isField_12 : decode cX9_isField 12 = .ok (.if_icmp .ge 7, 3) := by decide +kernel
theorem dX9_isField_15 : decode cX9_isField 15 = .ok (.iconst 1, 1) := by decide +kernel
theorem dX9_isField_16 : decode cX9_isField 16 = .ok (.goto 4, 3) := by decide +kernel
theorem dX9_isField_19 : decode cX9_isField 19 = .ok (.iconst 0, 1) := by decide +kernel
theorem dX9_isField_20 : decode cX9_isField 20 = .ok (.ireturn, 1) := by decide +kernel
theorem dX9_isFence_0 : decode cX9_isFence 0 = .ok (.iload_n 1, 1) := by decide +kernel
theorem dX9_isFence_1 : decode cX9_isFence 1 = .ok (.ifCond .lt 18, 3) := by decide +kernel
theorem dX9_isFence_4 : decode cX9_isFence 4 = .ok (.iload_n 1, 1) := by decide +kernel
theorem dX9_isFence_5 : decode cX9_isFence 5 = .ok (.aload_n 0, 1) := by decide +kernel
theorem dX9_isFence_6 : decode cX9_isFence 6 = .ok (.getfield 19, 3) := by decide +kernel
theorem dX9_isFence_9 : decode cX9_isFence 9 = .ok (.getfield 167, 3) := by decide +kernel
theorem dX9_isFence_12 : decode cX9_isFence 12 = .ok (.if_icmp .ge 7, 3) := by decide +kernel
theorem dX9_isFence_15 : decode cX9_isFence 15 = .ok (.iconst 1, 1) := by decide +kernel
theorem dX9_isFence_16 : decode cX9_isFence 16 = .ok (.goto 4, 3) := by decide +kernel
theorem dX9_isFence_19 : decode cX9_isFence 19 = .ok (.iconst 0, 1) := by decide +kernel
theorem dX9_isFence_20 : decode cX9_isFence 20 = .ok (.ireturn, 1) := by decide +kernel
theorem dX9_isKind_0 : decode cX9_isKind 0 = .ok (.iload_n 1, 1) := by decide +kernel
theorem dX9_isKind_1 : decode cX9_isKind 1 = .ok (.ifCond .lt 18, 3) := by decide +kernel
theorem dX9_isKind_4 : decode cX9_isKind 4 = .ok (.iload_n 1, 1) := by decide +kernel
theorem dX9_isKind_5 : decode cX9_isKind 5 = .ok (.aload_n 0, 1) := by decide +kernel
theorem dX9_isKind_6 : decode cX9_isKind 6 = .ok (.getfield 19, 3) := by decide +kernel
theorem dX9_isKind_9 : decode cX9_isKind 9 = .ok (.getfield 288, 3) := by decide +kernel
theorem dX9_isKind_12 : decode cX9_isKind 12 = .ok (.if_icmp .ge 7, 3) := by decide +kernel
theorem dX9_isKind_15 : decode cX9_isKind 15 = .ok (.iconst 1, 1) := by decide +kernel
theorem dX9_isKind_16 : decode cX9_isKind 16 = .ok (.goto 4, 3) := by decide +kernel
theorem dX9_isKind_19 : decode cX9_isKind 19 = .ok (.iconst 0, 1) := by decide +kernel
theorem dX9_isKind_20 : decode cX9_isKind 20 = .ok (.ireturn, 1) := by decide +kernel
theorem dX9_isBeast_0 : decode cX9_isBeast 0 = .ok (.iload_n 1, 1) := by decide +kernel
theorem dX9_isBeast_1 : decode cX9_isBeast 1 = .ok (.ifCond .lt 18, 3) := by decide +kernel
theorem dX9_isBeast_4 : decode cX9_isBeast 4 = .ok (.iload_n 1, 1) := by decide +kernel
theorem dX9_isBeast_5 : decode cX9_isBeast 5 = .ok (.aload_n 0, 1) := by decide +kernel
theorem dX9_isBeast_6 : decode cX9_isBeast 6 = .ok (.getfield 19, 3) := by decide +kernel
theorem dX9_isBeast_9 : decode cX9_isBeast 9 = .ok (.getfield 230, 3) := by decide +kernel
theorem dX9_isBeast_12 : decode cX9_isBeast 12 = .ok (.if_icmp .ge 7, 3) := by decide +kernel
theorem dX9_isBeast_15 : decode cX9_isBeast 15 = .ok (.iconst 1, 1) := by decide +kernel
theorem dX9_isBeast_16 : decode cX9_isBeast 16 = .ok (.goto 4, 3) := by decide +kernel
theorem dX9_isBeast_19 : decode cX9_isBeast 19 = .ok (.iconst 0, 1) := by decide +kernel
theorem dX9_isBeast_20 : decode cX9_isBeast 20 = .ok (.ireturn, 1) := by decide +kernel
theorem dX9_isImage_0 : decode cX9_isImage 0 = .ok (.iload_n 0, 1) := by decide +kernel
theorem dX9_isImage_1 : decode cX9_isImage 1 = .ok (.ifCond .lt 12, 3) := by decide +kernel
theorem dX9_isImage_4 : decode cX9_isImage 4 = .ok (.iload_n 0, 1) := by decide +kernel
theorem dX9_isImage_5 : decode cX9_isImage 5 = .ok (.iconst 2, 1) := by decide +kernel
theorem dX9_isImage_6 : decode cX9_isImage 6 = .ok (.if_icmp .ge 7, 3) := by decide +kernel
theorem dX9_isImage_9 : decode cX9_isImage 9 = .ok (.iconst 1, 1) := by decide +kernel
theorem dX9_isImage_10 : decode cX9_isImage 10 = .ok (.goto 4, 3) := by decide +kernel
theorem dX9_isImage_13 : decode cX9_isImage 13 = .ok (.iconst 0, 1) := by decide +kernel
theorem dX9_isImage_14 : decode cX9_isImage 14 = .ok (.ireturn, 1) := by decide +kernel
theorem dX9_isFlag_0 : decode cX9_isFlag 0 = .ok (.iload_n 0, 1) := by decide +kernel
theorem dX9_isFlag_1 : decode cX9_isFlag 1 = .ok (.ifCond .eq 8, 3) := by decide +kernel
theorem dX9_isFlag_4 : decode cX9_isFlag 4 = .ok (.iload_n 0, 1) := by decide +kernel
theorem dX9_isFlag_5 : decode cX9_isFlag 5 = .ok (.iconst 1, 1) := by decide +kernel
theorem dX9_isFlag_6 : decode cX9_isFlag 6 = .ok (.if_icmp .ne 7, 3) := by decide +kernel
theorem dX9_isFlag_9 : decode cX9_isFlag 9 = .ok (.iconst 1, 1) := by decide +kernel
theorem dX9_isFlag_10 : decode cX9_isFlag 10 = .ok (.goto 4, 3) := by decide +kernel
theorem dX9_isFlag_13 : decode cX9_isFlag 13 = .ok (.iconst 0, 1) := by decide +kernel
theorem dX9_isFlag_14 : decode cX9_isFlag 14 = .ok (.ireturn, 1) := by decide +kernel
theorem dX9_markString_0 : decode cX9_markString 0 = .ok (.aload_n 0, 1) := by decide +kernel
theorem dX9_markString_1 : decode cX9_markString 1 = .ok (.dup, 1) := by decide +kernel
theorem dX9_markString_2 : decode cX9_markString 2 = .ok (.getfield 291, 3) := by decide +kernel
theorem dX9_markString_5 : decode cX9_markString 5 = .ok (.lconst 1, 1) := by decide +kernel
theorem dX9_markString_6 : decode cX9_markString 6 = .ok (.ladd, 1) := by decide +kernel
theorem dX9_markString_7 : decode cX9_markString 7 = .ok (.putfield 291, 3) := by decide +kernel
theorem dX9_markString_10 : decode cX9_markString 10 = .ok (.aload_n 0, 1) := by decide +kernel
theorem dX9_markString_11 : decode cX9_markString 11 = .ok (.getfield 29, 3) := by decide +kernel
theorem dX9_markString_14 : decode cX9_markString 14 = .ok (.getfield 111, 3) := by decide +kernel
theorem dX9_markString_17 : decode cX9_markString 17 = .ok (.iload_n 1, 1) := by decide +kernel
theorem dX9_markString_18 : decode cX9_markString 18 = .ok (.iaload, 1) := by decide +kernel
theorem dX9_markString_19 : decode cX9_markString 19 = .ok (.ireturn, 1) := by decide +kernel
theorem dX9_markBass_0 : decode cX9_markBass 0 = .ok (.aload_n 0, 1) := by decide +kernel
theorem dX9_markBass_1 : decode cX9_markBass 1 = .ok (.dup, 1) := by decide +kernel
theorem dX9_markBass_2 : decode cX9_markBass 2 = .ok (.getfield 291, 3) := by decide +kernel
theorem dX9_markBass_5 : decode cX9_markBass 5 = .ok (.ldc2_w 297, 3) := by decide +kernel
theorem dX9_markBass_8 : decode cX9_markBass 8 = .ok (.ladd, 1) := by decide +kernel
theorem dX9_markBass_9 : decode cX9_markBass 9 = .ok (.putfield 291, 3) := by decide +kernel
theorem dX9_markBass_12 : decode cX9_markBass 12 = .ok (.aload_n 0, 1) := by decide +kernel
theorem dX9_markBass_13 : decode cX9_markBass 13 = .ok (.iload_n 1, 1) := by decide +kernel
theorem dX9_markBass_14 : decode cX9_markBass 14 = .ok (.invokevirtual 256, 3) := by decide +kernel
theorem dX9_markBass_17 : decode cX9_markBass 17 = .ok (.aload_n 0, 1) := by decide +kernel
theorem dX9_markBass_18 : decode cX9_markBass 18 = .ok (.getfield 29, 3) := by decide +kernel
theorem dX9_markBass_21 : decode cX9_markBass 21 = .ok (.getfield 170, 3) := by decide +kernel
theorem dX9_markBass_24 : decode cX9_markBass 24 = .ok (.iadd, 1) := by decide +kernel
theorem dX9_markBass_25 : decode cX9_markBass 25 = .ok (.ireturn, 1) := by decide +kernel
theorem dX9_markTreble_0 : decode cX9_markTreble 0 = .ok (.aload_n 0, 1) := by decide +kernel
theorem dX9_markTreble_1 : decode cX9_markTreble 1 = .ok (.dup, 1) := by decide +kernel
theorem dX9_markTreble_2 : decode cX9_markTreble 2 = .ok (.getfield 291, 3) := by decide +kernel
theorem dX9_markTreble_5 : decode cX9_markTreble 5 = .ok (.ldc2_w 299, 3) := by decide +kernel
theorem dX9_markTreble_8 : decode cX9_markTreble 8 = .ok (.ladd, 1) := by decide +kernel
theorem dX9_markTreble_9 : decode cX9_markTreble 9 = .ok (.putfield 291, 3) := by decide +kernel
theorem dX9_markTreble_12 : decode cX9_markTreble 12 = .ok (.aload_n 0, 1) := by decide +kernel
theorem dX9_markTreble_13 : decode cX9_markTreble 13 = .ok (.iload_n 1, 1) := by decide +kernel
theorem dX9_markTreble_14 : decode cX9_markTreble 14 = .ok (.invokevirtual 256, 3) := by decide +kernel
theorem dX9_markTreble_17 : decode cX9_markTreble 17 = .ok (.aload_n 0, 1) := by decide +kernel
theorem dX9_markTreble_18 : decode cX9_markTreble 18 = .ok (.getfield 38, 3) := by decide +kernel
theorem dX9_markTreble_21 : decode cX9_markTreble 21 = .ok (.aload_n 0, 1) := by decide +kernel
theorem dX9_markTreble_22 : decode cX9_markTreble 22 = .ok (.getfield 19, 3) := by decide +kernel
theorem dX9_markTreble_25 : decode cX9_markTreble 25 = .ok (.getfield 104, 3) := by decide +kernel
theorem dX9_markTreble_28 : decode cX9_markTreble 28 = .ok (.iload_n 1, 1) := by decide +kernel
theorem dX9_markTreble_29 : decode cX9_markTreble 29 = .ok (.iaload, 1) := by decide +kernel
theorem dX9_markTreble_30 : decode cX9_markTreble 30 = .ok (.invokevirtual 227, 3) := by decide +kernel
theorem dX9_markTreble_33 : decode cX9_markTreble 33 = .ok (.isub, 1) := by decide +kernel
theorem dX9_markTreble_34 : decode cX9_markTreble 34 = .ok (.ireturn, 1) := by decide +kernel
theorem dX9_markBull_0 : decode cX9_markBull 0 = .ok (.aload_n 0, 1) := by decide +kernel
theorem dX9_markBull_1 : decode cX9_markBull 1 = .ok (.dup, 1) := by decide +kernel
theorem dX9_markBull_2 : decode cX9_markBull 2 = .ok (.getfield 291, 3) := by decide +kernel
theorem dX9_markBull_5 : decode cX9_markBull 5 = .ok (.ldc2_w 301, 3) := by decide +kernel
theorem dX9_markBull_8 : decode cX9_markBull 8 = .ok (.ladd, 1) := by decide +kernel
theorem dX9_markBull_9 : decode cX9_markBull 9 = .ok (.putfield 291, 3) := by decide +kernel
theorem dX9_markBull_12 : decode cX9_markBull 12 = .ok (.aload_n 0, 1) := by decide +kernel
theorem dX9_markBull_13 : decode cX9_markBull 13 = .ok (.iload_n 1, 1) := by decide +kernel
theorem dX9_markBull_14 : decode cX9_markBull 14 = .ok (.invokevirtual 259, 3) := by decide +kernel
theorem dX9_markBull_17 : decode cX9_markBull 17 = .ok (.iconst 2, 1) := by decide +kernel
theorem dX9_markBull_18 : decode cX9_markBull 18 = .ok (.imul, 1) := by decide +kernel
theorem dX9_markBull_19 : decode cX9_markBull 19 = .ok (.ireturn, 1) := by decide +kernel
theorem dX9_markLark_0 : decode cX9_markLark 0 = .ok (.aload_n 0, 1) := by decide +kernel
theorem dX9_markLark_1 : decode cX9_markLark 1 = .ok (.dup, 1) := by decide +kernel
theorem dX9_markLark_2 : decode cX9_markLark 2 = .ok (.getfield 291, 3) := by decide +kernel
theorem dX9_markLark_5 : decode cX9_markLark 5 = .ok (.ldc2_w 303, 3) := by decide +kernel
theorem dX9_markLark_8 : decode cX9_markLark 8 = .ok (.ladd, 1) := by decide +kernel
theorem dX9_markLark_9 : decode cX9_markLark 9 = .ok (.putfield 291, 3) := by decide +kernel
theorem dX9_markLark_12 : decode cX9_markLark 12 = .ok (.aload_n 0, 1) := by decide +kernel
theorem dX9_markLark_13 : decode cX9_markLark 13 = .ok (.iload_n 1, 1) := by decide +kernel
theorem dX9_markLark_14 : decode cX9_markLark 14 = .ok (.invokevirtual 262, 3) := by decide +kernel
theorem dX9_markLark_17 : decode cX9_markLark 17 = .ok (.iload_n 1, 1) := by decide +kernel
theorem dX9_markLark_18 : decode cX9_markLark 18 = .ok (.iadd, 1) := by decide +kernel
theorem dX9_markLark_19 : decode cX9_markLark 19 = .ok (.ireturn, 1) := by decide +kernel
theorem dX9_markPedal_0 : decode cX9_markPedal 0 = .ok (.aload_n 0, 1) := by decide +kernel
theorem dX9_markPedal_1 : decode cX9_markPedal 1 = .ok (.dup, 1) := by decide +kernel
theorem dX9_markPedal_2 : decode cX9_markPedal 2 = .ok (.getfield 291, 3) := by decide +kernel
theorem dX9_markPedal_5 : decode cX9_markPedal 5 = .ok (.ldc2_w 305, 3) := by decide +kernel
theorem dX9_markPedal_8 : decode cX9_markPedal 8 = .ok (.ladd, 1) := by decide +kernel
theorem dX9_markPedal_9 : decode cX9_markPedal 9 = .ok (.putfield 291, 3) := by decide +kernel
theorem dX9_markPedal_12 : decode cX9_markPedal 12 = .ok (.aload_n 0, 1) := by decide +kernel
theorem dX9_markPedal_13 : decode cX9_markPedal 13 = .ok (.iload_n 1, 1) := by decide +kernel
theorem dX9_markPedal_14 : decode cX9_markPedal 14 = .ok (.invokevirtual 256, 3) := by decide +kernel
theorem dX9_markPedal_17 : decode cX9_markPedal 17 = .ok (.aload_n 0, 1) := by decide +kernel
theorem dX9_markPedal_18 : decode cX9_markPedal 18 = .ok (.getfield 29, 3) := by decide +kernel
theorem dX9_markPedal_21 : decode cX9_markPedal 21 = .ok (.getfield 179, 3) := by decide +kernel
theorem dX9_markPedal_24 : decode cX9_markPedal 24 = .ok (.iadd, 1) := by decide +kernel
theorem dX9_markPedal_25 : decode cX9_markPedal 25 = .ok (.ireturn, 1) := by decide +kernel
theorem dX10_init_0 : decode cX10_init 0 = .ok (.aload_n 0, 1) := by decide +kernel
theorem dX10_init_1 : decode cX10_init 1 = .ok (.invokespecial 1, 3) := by decide +kernel
theorem dX10_init_4 : decode cX10_init 4 = .ok (.aload_n 0, 1) := by decide +kernel
theorem dX10_init_5 : decode cX10_init 5 = .ok (.sipush 150, 3) := by decide +kernel
theorem dX10_init_8 : decode cX10_init 8 = .ok (.newarray .byte, 2) := by decide +kernel
theorem dX10_init_10 : decode cX10_init 10 = .ok (.putfield 7, 3) := by decide +kernel
theorem dX10_init_13 : decode cX10_init 13 = .ok (.aload_n 0, 1) := by decide +kernel
theorem dX10_init_14 : decode cX10_init 14 = .ok (.iconst 2, 1) := by decide +kernel
theorem dX10_init_15 : decode cX10_init 15 = .ok (.newarray .int, 2) := by decide +kernel
theorem dX10_init_17 : decode cX10_init 17 = .ok (.putfield 13, 3) := by decide +kernel
theorem dX10_init_20 : decode cX10_init 20 = .ok (.aload_n 0, 1) := by decide +kernel
theorem dX10_init_21 : decode cX10_init 21 = .ok (.iconst 2, 1) := by decide +kernel
theorem dX10_init_22 : decode cX10_init 22 = .ok (.newarray .int, 2) := by decide +kernel
theorem dX10_init_24 : decode cX10_init 24 = .ok (.putfield 17, 3) := by decide +kernel
theorem dX10_init_27 : decode cX10_init 27 = .ok (.aload_n 0, 1) := by decide +kernel
theorem dX10_init_28 : decode cX10_init 28 = .ok (.bipush 16, 2) := by decide +kernel
theorem dX10_init_30 : decode cX10_init 30 = .ok (.newarray .int, 2) := by decide +kernel
theorem dX10_init_32 : decode cX10_init 32 = .ok (.putfield 20, 3) := by decide +kernel
theorem dX10_init_35 : decode cX10_init 35 = .ok (.aload_n 0, 1) := by decide +kernel
theorem dX10_init_36 : decode cX10_init 36 = .ok (.bipush 16, 2) := by decide +kernel
theorem dX10_init_38 : decode cX10_init 38 = .ok (.newarray .int, 2) := by decide +kernel
theorem dX10_init_40 : decode cX10_init 40 = .ok (.putfield 23, 3) := by decide +kernel
theorem dX10_init_43 : decode cX10_init 43 = .ok (.aload_n 0, 1) := by decide +kernel
theorem dX10_init_44 : decode cX10_init 44 = .ok (.bipush 16, 2) := by decide +kernel
theorem dX10_init_46 : decode cX10_init 46 = .ok (.newarray .int, 2) := by decide +kernel
theorem dX10_init_48 : decode cX10_init 48 = .ok (.putfield 26, 3) := by decide +kernel
theorem dX10_init_51 : decode cX10_init 51 = .ok (.aload_n 0, 1) := by decide +kernel
theorem dX10_init_52 : decode cX10_init 52 = .ok (.iconst 2, 1) := by decide +kernel
theorem dX10_init_53 : decode cX10_init 53 = .ok (.newarray .int, 2) := by decide +kernel
theorem dX10_init_55 : decode cX10_init 55 = .ok (.putfield 29, 3) := by decide +kernel
theorem dX10_init_58 : decode cX10_init 58 = .ok (.aload_n 0, 1) := by decide +kernel
theorem dX10_init_59 : decode cX10_init 59 = .ok (.bipush 8, 2) := by decide +kernel
theorem dX10_init_61 : decode cX10_init 61 = .ok (.newarray .int, 2) := by decide +kernel
theorem dX10_init_63 : decode cX10_init 63 = .ok (.putfield 32, 3) := by decide +kernel
theorem dX10_init_66 : decode cX10_init 66 = .ok (.aload_n 0, 1) := by decide +kernel
theorem dX10_init_67 : decode cX10_init 67 = .ok (.bipush 8, 2) := by decide +kernel
theorem dX10_init_69 : decode cX10_init 69 = .ok (.newarray .int, 2) := by decide +kernel
theorem dX10_init_71 : decode cX10_init 71 = .ok (.putfield 35, 3) := by decide +kernel
theorem dX10_init_74 : decode cX10_init 74 = .ok (.aload_n 0, 1) := by decide +kernel
theorem dX10_init_75 : decode cX10_init 75 = .ok (.iconst 2, 1) := by decide +kernel
theorem dX10_init_76 : decode cX10_init 76 = .ok (.newarray .int, 2) := by decide +kernel
theorem dX10_init_78 : decode cX10_init 78 = .ok (.putfield 38, 3) := by decide +kernel
theorem dX10_init_81 : decode cX10_init 81 = .ok (.aload_n 0, 1) := by decide +kernel
theorem dX10_init_82 : decode cX10_init 82 = .ok (.bipush 12, 2) := by decide +kernel
theorem dX10_init_84 : decode cX10_init 84 = .ok (.newarray .int, 2) := by decide +kernel
theorem dX10_init_86 : decode cX10_init 86 = .ok (.putfield 41, 3) := by decide +kernel
theorem dX10_init_89 : decode cX10_init 89 = .ok (.aload_n 0, 1) := by decide +kernel
theorem dX10_init_90 : decode cX10_init 90 = .ok (.bipush 12, 2) := by decide +kernel
theorem dX10_init_92 : decode cX10_init 92 = .ok (.newarray .int, 2) := by decide +kernel
theorem dX10_init_94 : decode cX10_init 94 = .ok (.putfield 44, 3) := by decide +kernel
theorem dX10_init_97 : decode cX10_init 97 = .ok (.aload_n 0, 1) := by decide +kernel
theorem dX10_init_98 : decode cX10_init 98 = .ok (.iconst 2, 1) := by decide +kernel
theorem dX10_init_99 : decode cX10_init 99 = .ok (.newarray .int, 2) := by decide +kernel
theorem dX10_init_101 : decode cX10_init 101 = .ok (.putfield 47, 3) := by decide +kernel
theorem dX10_init_104 : decode cX10_init 104 = .ok (.aload_n 0, 1) := by decide +kernel
theorem dX10_init_105 : decode cX10_init 105 = .ok (.bipush 30, 2) := by decide +kernel
theorem dX10_init_107 : decode cX10_init 107 = .ok (.newarray .int, 2) := by decide +kernel
theorem dX10_init_109 : decode cX10_init 109 = .ok (.putfield 50, 3) := by decide +kernel
theorem dX10_init_112 : decode cX10_init 112 = .ok (.aload_n 0, 1) := by decide +kernel
theorem dX10_init_113 : decode cX10_init 113 = .ok (.iconst 3, 1) := by decide +kernel
theorem dX10_init_114 : decode cX10_init 114 = .ok (.newarray .int, 2) := by decide +kernel
theorem dX10_init_116 : decode cX10_init 116 = .ok (.putfield 53, 3) := by decide +kernel
theorem dX10_init_119 : decode cX10_init 119 = .ok (.aload_n 0, 1) := by decide +kernel
theorem dX10_init_120 : decode cX10_init 120 = .ok (.sipush 900, 3) := by decide +kernel
theorem dX10_init_123 : decode cX10_init 123 = .ok (.newarray .int, 2) := by decide +kernel
theorem dX10_init_125 : decode cX10_init 125 = .ok (.putfield 56, 3) := by decide +kernel
theorem dX10_init_128 : decode cX10_init 128 = .ok (.aload_n 0, 1) := by decide +kernel
theorem dX10_init_129 : decode cX10_init 129 = .ok (.bipush 60, 2) := by decide +kernel
theorem dX10_init_131 : decode cX10_init 131 = .ok (.newarray .int, 2) := by decide +kernel
theorem dX10_init_133 : decode cX10_init 133 = .ok (.putfield 59, 3) := by decide +kernel
theorem dX10_init_136 : decode cX10_init 136 = .ok (.aload_n 0, 1) := by decide +kernel
theorem dX10_init_137 : decode cX10_init 137 = .ok (.iconst 2, 1) := by decide +kernel
theorem dX10_init_138 : decode cX10_init 138 = .ok (.newarray .boolean, 2) := by decide +kernel
theorem dX10_init_140 : decode cX10_init 140 = .ok (.putfield 62, 3) := by decide +kernel
theorem dX10_init_143 : decode cX10_init 143 = .ok (.aload_n 0, 1) := by decide +kernel
theorem dX10_init_144 : decode cX10_init 144 = .ok (.bipush 6, 2) := by decide +kernel
theorem dX10_init_146 : decode cX10_init 146 = .ok (.newarray .int, 2) := by decide +kernel
theorem dX10_init_148 : decode cX10_init 148 = .ok (.putfield 66, 3) := by decide +kernel
theorem dX10_init_151 : decode cX10_init 151 = .ok (.aload_n 0, 1) := by decide +kernel
theorem dX10_init_152 : decode cX10_init 152 = .ok (.bipush 8, 2) := by decide +kernel
theorem dX10_init_154 : decode cX10_init 154 = .ok (.newarray .int, 2) := by decide +kernel
theorem dX10_init_156 : decode cX10_init 156 = .ok (.putfield 69, 3) := by decide +kernel
theorem dX10_init_159 : decode cX10_init 159 = .ok (.aload_n 0, 1) := by decide +kernel
theorem dX10_init_160 : decode cX10_init 160 = .ok (.bipush 8, 2) := by decide +kernel
theorem dX10_init_162 : decode cX10_init 162 = .ok (.newarray .int, 2) := by decide +kernel
theorem dX10_init_164 : decode cX10_init 164 = .ok (.putfield 72, 3) := by decide +kernel
theorem dX10_init_167 : decode cX10_init 167 = .ok (.aload_n 0, 1) := by decide +kernel
theorem dX10_init_168 : decode cX10_init 168 = .ok (.bipush 8, 2) := by decide +kernel
theorem dX10_init_170 : decode cX10_init 170 = .ok (.newarray .int, 2) := by decide +kernel
theorem dX10_init_172 : decode cX10_init 172 = .ok (.putfield 75, 3) := by decide +kernel
theorem dX10_init_175 : decode cX10_init 175 = .ok (.aload_n 0, 1) := by decide +kernel
theorem dX10_init_176 : decode cX10_init 176 = .ok (.sipush 1792, 3) := by decide +kernel
theorem dX10_init_179 : decode cX10_init 179 = .ok (.newarray .int, 2) := by decide +kernel
theorem dX10_init_181 : decode cX10_init 181 = .ok (.putfield 78, 3) := by decide +kernel
theorem dX10_init_184 : decode cX10_init 184 = .ok (.aload_n 0, 1) := by decide +kernel
theorem dX10_init_185 : decode cX10_init 185 = .ok (.getfield 13, 3) := by decide +kernel
theorem dX10_init_188 : decode cX10_init 188 = .ok (.iconst 0, 1) := by decide +kernel
theorem dX10_init_189 : decode cX10_init 189 = .ok (.iconst 2, 1) := by decide +kernel
theorem dX10_init_190 : decode cX10_init 190 = .ok (.iastore, 1) := by decide +kernel
theorem dX10_init_191 : decode cX10_init 191 = .ok (.return_, 1) := by decide +kernel
theorem dX10_in_0 : decode cX10_in 0 = .ok (.iload_n 0, 1) := by decide +kernel
theorem dX10_in_1 : decode cX10_in 1 = .ok (.iload_n 1, 1) := by decide +kernel
theorem dX10_in_2 : decode cX10_in 2 = .ok (.if_icmp .lt 12, 3) := by decide +kernel
theorem dX10_in_5 : decode cX10_in 5 = .ok (.iload_n 0, 1) := by decide +kernel
theorem dX10_in_6 : decode cX10_in 6 = .ok (.iload_n 2, 1) := by decide +kernel
theorem dX10_in_7 : decode cX10_in 7 = .ok (.if_icmp .gt 7, 3) := by decide +kernel
theorem dX10_in_10 : decode cX10_in 10 = .ok (.iconst 1, 1) := by decide +kernel
theorem dX10_in_11 : decode cX10_in 11 = .ok (.goto 4, 3) := by decide +kernel
theorem dX10_in_14 : decode cX10_in 14 = .ok (.iconst 0, 1) := by decide +kernel
theorem dX10_in_15 : decode cX10_in 15 = .ok (.ireturn, 1) := by decide +kernel
theorem dX10_has_0 : decode cX10_has 0 = .ok (.iload_n 0, 1) := by decide +kernel
theorem dX10_has_1 : decode cX10_has 1 = .ok (.iload_n 1, 1) := by decide +kernel
theorem dX10_has_2 : decode cX10_has 2 = .ok (.ishr, 1) := by decide +kernel
theorem dX10_has_3 : decode cX10_has 3 = .ok (.iconst 1, 1) := by decide +kernel
theorem dX10_has_4 : decode cX10_has 4 = .ok (.iand, 1) := by decide +kernel
theorem dX10_has_5 : decode cX10_has 5 = .ok (.iconst 1, 1) := by decide +kernel
theorem dX10_has_6 : decode cX10_has 6 = .ok (.if_icmp .ne 7, 3) := by decide +kernel
theorem dX10_has_9 : decode cX10_has 9 = .ok (.iconst 1, 1) := by decide +kernel
theorem dX10_has_10 : decode cX10_has 10 = .ok (.goto 4, 3) := by decide +kernel
theorem dX10_has_13 : decode cX10_has 13 = .ok (.iconst 0, 1) := by decide +kernel
theorem dX10_has_14 : decode cX10_has 14 = .ok (.ireturn, 1) := by decide +kernel
theorem dX10_type_0 : decode cX10_type 0 = .ok (.iload_n 1, 1) := by decide +kernel
theorem dX10_type_1 : decode cX10_type 1 = .ok (.iconst 0, 1) := by decide +kernel
theorem dX10_type_2 : decode cX10_type 2 = .ok (.sipush 255, 3) := by decide +kernel
theorem dX10_type_5 : decode cX10_type 5 = .ok (.invokestatic 81, 3) := by decide +kernel
theorem dX10_type_8 : decode cX10_type 8 = .ok (.ifCond .ne 5, 3) := by decide +kernel
theorem dX10_type_11 : decode cX10_type 11 = .ok (.iconst (-1), 1) := by decide +kernel
theorem dX10_type_12 : decode cX10_type 12 = .ok (.ireturn, 1) := by decide +kernel
theorem dX10_type_13 : decode cX10_type 13 = .ok (.aload_n 0, 1) := by decide +kernel
theorem dX10_type_14 : decode cX10_type 14 = .ok (.getfield 85, 3) := by decide +kernel
theorem dX10_type_17 : decode cX10_type 17 = .ok (.sipush 150, 3) := by decide +kernel
theorem dX10_type_20 : decode cX10_type 20 = .ok (.if_icmp .ne 6, 3) := by decide +kernel
theorem dX10_type_23 : decode cX10_type 23 = .ok (.bipush (-3), 2) := by decide +kernel
theorem dX10_type_25 : decode cX10_type 25 = .ok (.ireturn, 1) := by decide +kernel
theorem dX10_type_26 : decode cX10_type 26 = .ok (.aload_n 0, 1) := by decide +kernel
theorem dX10_type_27 : decode cX10_type 27 = .ok (.getfield 7, 3) := by decide +kernel
theorem dX10_type_30 : decode cX10_type 30 = .ok (.aload_n 0, 1) := by decide +kernel
theorem dX10_type_31 : decode cX10_type 31 = .ok (.getfield 85, 3) := by decide +kernel
theorem dX10_type_34 : decode cX10_type 34 = .ok (.iload_n 1, 1) := by decide +kernel
theorem dX10_type_35 : decode cX10_type 35 = .ok (.i2b, 1) := by decide +kernel
theorem dX10_type_36 : decode cX10_type 36 = .ok (.bastore, 1) := by decide +kernel
theorem dX10_type_37 : decode cX10_type 37 = .ok (.aload_n 0, 1) := by decide +kernel
theorem dX10_type_38 : decode cX10_type 38 = .ok (.dup, 1) := by decide +kernel
theorem dX10_type_39 : decode cX10_type 39 = .ok (.getfield 85, 3) := by decide +kernel
theorem dX10_type_42 : decode cX10_type 42 = .ok (.iconst 1, 1) := by decide +kernel
theorem dX10_type_43 : decode cX10_type 43 = .ok (.iadd, 1) := by decide +kernel
theorem dX10_type_44 : decode cX10_type 44 = .ok (.putfield 85, 3) := by decide +kernel
theorem dX10_type_47 : decode cX10_type 47 = .ok (.aload_n 0, 1) := by decide +kernel
theorem dX10_type_48 : decode cX10_type 48 = .ok (.getfield 85, 3) := by decide +kernel
theorem dX10_type_51 : decode cX10_type 51 = .ok (.ireturn, 1) := by decide +kernel
theorem dX10_clear_0 : decode cX10_clear 0 = .ok (.aload_n 0, 1) := by decide +kernel
theorem dX10_clear_1 : decode cX10_clear 1 = .ok (.getfield 85, 3) := by decide +kernel
theorem dX10_clear_4 : decode cX10_clear 4 = .ok (.istore_n 1, 1) := by decide +kernel
theorem dX10_clear_5 : decode cX10_clear 5 = .ok (.aload_n 0, 1) := by decide +kernel
theorem dX10_clear_6 : decode cX10_clear 6 = .ok (.iconst 0, 1) := by decide +kernel
theorem dX10_clear_7 : decode cX10_clear 7 = .ok (.putfield 85, 3) := by decide +kernel
theorem dX10_clear_10 : decode cX10_clear 10 = .ok (.iload_n 1, 1) := by decide +kernel
theorem dX10_clear_11 : decode cX10_clear 11 = .ok (.ireturn, 1) := by decide +kernel
theorem dX10_here_0 : decode cX10_here 0 = .ok (.aload_n 0, 1) := by decide +kernel
theorem dX10_here_1 : decode cX10_here 1 = .ok (.getfield 89, 3) := by decide +kernel
theorem dX10_here_4 : decode cX10_here 4 = .ok (.aload_n 0, 1) := by decide +kernel
theorem dX10_here_5 : decode cX10_here 5 = .ok (.getfield 85, 3) := by decide +kernel
theorem dX10_here_8 : decode cX10_here 8 = .ok (.if_icmp .ge 19, 3) := by decide +kernel
theorem dX10_here_11 : decode cX10_here 11 = .ok (.aload_n 0, 1) := by decide +kernel
theorem dX10_here_12 : decode cX10_here 12 = .ok (.getfield 7, 3) := by decide +kernel
theorem dX10_here_15 : decode cX10_here 15 = .ok (.aload_n 0, 1) := by decide +kernel
theorem dX10_here_16 : decode cX10_here 16 = .ok (.getfield 89, 3) := by decide +kernel
theorem dX10_here_19 : decode cX10_here 19 = .ok (.baload, 1) := by decide +kernel
theorem dX10_here_20 : decode cX10_here 20 = .ok (.sipush 255, 3) := by decide +kernel
theorem dX10_here_23 : decode cX10_here 23 = .ok (.iand, 1) := by decide +kernel
theorem dX10_here_24 : decode cX10_here 24 = .ok (.goto 5, 3) := by decide +kernel
theorem dX10_here_27 : decode cX10_here 27 = .ok (.bipush (-9), 2) := by decide +kernel
theorem dX10_here_29 : decode cX10_here 29 = .ok (.ireturn, 1) := by decide +kernel
theorem dX10_step_0 : decode cX10_step 0 = .ok (.aload_n 0, 1) := by decide +kernel
theorem dX10_step_1 : decode cX10_step 1 = .ok (.invokevirtual 92, 3) := by decide +kernel
theorem dX10_step_4 : decode cX10_step 4 = .ok (.bipush 32, 2) := by decide +kernel
theorem dX10_step_6 : decode cX10_step 6 = .ok (.if_icmp .ne 16, 3) := by decide +kernel
theorem dX10_step_9 : decode cX10_step 9 = .ok (.aload_n 0, 1) := by decide +kernel
theorem dX10_step_10 : decode cX10_step 10 = .ok (.dup, 1) := by decide +kernel
theorem dX10_step_11 : decode cX10_step 11 = .ok (.getfield 89, 3) := by decide +kernel
theorem dX10_step_14 : decode cX10_step 14 = .ok (.iconst 1, 1) := by decide +kernel
theorem dX10_step_15 : decode cX10_step 15 = .ok (.iadd, 1) := by decide +kernel
theorem dX10_step_16 : decode cX10_step 16 = .ok (.putfield 89, 3) := by decide +kernel
theorem dX10_step_19 : decode cX10_step 19 = .ok (.goto (-19), 3) := by decide +kernel
theorem dX10_step_22 : decode cX10_step 22 = .ok (.aload_n 0, 1) := by decide +kernel
theorem dX10_step_23 : decode cX10_step 23 = .ok (.aload_n 0, 1) := by decide +kernel
theorem dX10_step_24 : decode cX10_step 24 = .ok (.getfield 89, 3) := by decide +kernel
theorem dX10_step_27 : decode cX10_step 27 = .ok (.putfield 96, 3) := by decide +kernel
theorem dX10_step_30 : decode cX10_step 30 = .ok (.aload_n 0, 1) := by decide +kernel
theorem dX10_step_31 : decode cX10_step 31 = .ok (.iconst 0, 1) := by decide +kernel
theorem dX10_step_32 : decode cX10_step 32 = .ok (.putfield 99, 3) := by decide +kernel
theorem dX10_step_35 : decode cX10_step 35 = .ok (.aload_n 0, 1) := by decide +kernel
theorem dX10_step_36 : decode cX10_step 36 = .ok (.invokevirtual 92, 3) := by decide +kernel
theorem dX10_step_39 : decode cX10_step 39 = .ok (.istore_n 1, 1) := by decide +kernel
theorem dX10_step_40 : decode cX10_step 40 = .ok (.iload_n 1, 1) := by decide +kernel
theorem dX10_step_41 : decode cX10_step 41 = .ok (.bipush (-9), 2) := by decide +kernel
theorem dX10_step_43 : decode cX10_step 43 = .ok (.if_icmp .ne 11, 3) := by decide +kernel
theorem dX10_step_46 : decode cX10_step 46 = .ok (.aload_n 0, 1) := by decide +kernel
theorem dX10_step_47 : decode cX10_step 47 = .ok (.iconst 4, 1) := by decide +kernel
theorem dX10_step_48 : decode cX10_step 48 = .ok (.putfield 102, 3) := by decide +kernel
theorem dX10_step_51 : decode cX10_step 51 = .ok (.goto 209, 3) := by decide +kernel
theorem dX10_step_54 : decode cX10_step 54 = .ok (.iload_n 1, 1) := by decide +kernel
theorem dX10_step_55 : decode cX10_step 55 = .ok (.bipush 48, 2) := by decide +kernel
theorem dX10_step_57 : decode cX10_step 57 = .ok (.bipush 57, 2) := by decide +kernel
theorem dX10_step_59 : decode cX10_step 59 = .ok (.invokestatic 81, 3) := by decide +kernel
theorem dX10_step_62 : decode cX10_step 62 = .ok (.ifCond .eq 105, 3) := by decide +kernel
theorem dX10_step_65 : decode cX10_step 65 = .ok (.aload_n 0, 1) := by decide +kernel
theorem dX10_step_66 : decode cX10_step 66 = .ok (.invokevirtual 92, 3) := by decide +kernel
theorem dX10_step_69 : decode cX10_step 69 = .ok (.bipush 48, 2) := by decide +kernel
theorem dX10_step_71 : decode cX10_step 71 = .ok (.bipush 57, 2) := by decide +kernel
theorem dX10_step_73 : decode cX10_step 73 = .ok (.invokestatic 81, 3) := by decide +kernel
theorem dX10_step_76 : decode cX10_step 76 = .ok (.ifCond .eq 51, 3) := by decide +kernel
theorem dX10_step_79 : decode cX10_step 79 = .ok (.aload_n 0, 1) := by decide +kernel
theorem dX10_step_80 : decode cX10_step 80 = .ok (.aload_n 0, 1) := by decide +kernel
theorem dX10_step_81 : decode cX10_step 81 = .ok (.getfield 99, 3) := by decide +kernel
theorem dX10_step_84 : decode cX10_step 84 = .ok (.bipush 99, 2) := by decide +kernel
theorem dX10_step_86 : decode cX10_step 86 = .ok (.if_icmp .le 10, 3) := by decide +kernel
theorem dX10_step_89 : decode cX10_step 89 = .ok (.aload_n 0, 1) := by decide +kernel
theorem dX10_step_90 : decode cX10_step 90 = .ok (.getfield 99, 3) := by decide +kernel
theorem dX10_step_93 : decode cX10_step 93 = .ok (.goto 18, 3) := by decide +kernel
theorem dX10_step_96 : decode cX10_step 96 = .ok (.bipush 10, 2) := by decide +kernel
theorem dX10_step_98 : decode cX10_step 98 = .ok (.aload_n 0, 1) := by decide +kernel
theorem dX10_step_99 : decode cX10_step 99 = .ok (.getfield 99, 3) := by decide +kernel
theorem dX10_step_102 : decode cX10_step 102 = .ok (.imul, 1) := by decide +kernel
theorem dX10_step_103 : decode cX10_step 103 = .ok (.aload_n 0, 1) := by decide +kernel
theorem dX10_step_104 : decode cX10_step 104 = .ok (.invokevirtual 92, 3) := by decide +kernel
theorem dX10_step_107 : decode cX10_step 107 = .ok (.iadd, 1) := by decide +kernel
theorem dX10_step_108 : decode cX10_step 108 = .ok (.bipush 48, 2) := by decide +kernel
theorem dX10_step_110 : decode cX10_step 110 = .ok (.isub, 1) := by decide +kernel
theorem dX10_step_111 : decode cX10_step 111 = .ok (.putfield 99, 3) := by decide +kernel
theorem dX10_step_114 : decode cX10_step 114 = .ok (.aload_n 0, 1) := by decide +kernel
theorem dX10_step_115 : decode cX10_step 115 = .ok (.dup, 1) := by decide +kernel
theorem dX10_step_116 : decode cX10_step 116 = .ok (.getfield 89, 3) := by decide +kernel
theorem dX10_step_119 : decode cX10_step 119 = .ok (.iconst 1, 1) := by decide +kernel
theorem dX10_step_120 : decode cX10_step 120 = .ok (.iadd, 1) := by decide +kernel
theorem dX10_step_121 : decode cX10_step 121 = .ok (.putfield 89, 3) := by decide +kernel
theorem dX10_step_124 : decode cX10_step 124 = .ok (.goto (-59), 3) := by decide +kernel
theorem dX10_step_127 : decode cX10_step 127 = .ok (.aload_n 0, 1) := by decide +kernel
theorem dX10_step_128 : decode cX10_step 128 = .ok (.aload_n 0, 1) := by decide +kernel
theorem dX10_step_129 : decode cX10_step 129 = .ok (.getfield 99, 3) := by decide +kernel
theorem dX10_step_132 : decode cX10_step 132 = .ok (.bipush 99, 2) := by decide +kernel
theorem dX10_step_134 : decode cX10_step 134 = .ok (.if_icmp .gt 22, 3) := by decide +kernel
theorem dX10_step_137 : decode cX10_step 137 = .ok (.iload_n 1, 1) := by decide +kernel
theorem dX10_step_138 : decode cX10_step 138 = .ok (.bipush 48, 2) := by decide +kernel
theorem dX10_step_140 : decode cX10_step 140 = .ok (.if_icmp .ne 20, 3) := by decide +kernel
theorem dX10_step_143 : decode cX10_step 143 = .ok (.aload_n 0, 1) := by decide +kernel
theorem dX10_step_144 : decode cX10_step 144 = .ok (.getfield 89, 3) := by decide +kernel
theorem dX10_step_147 : decode cX10_step 147 = .ok (.aload_n 0, 1) := by decide +kernel
theorem dX10_step_148 : decode cX10_step 148 = .ok (.getfield 96, 3) := by decide +kernel
theorem dX10_step_151 : decode cX10_step 151 = .ok (.isub, 1) := by decide +kernel
theorem dX10_step_152 : decode cX10_step 152 = .ok (.iconst 1, 1) := by decide +kernel
theorem dX10_step_153 : decode cX10_step 153 = .ok (.if_icmp .le 7, 3) := by decide +kernel
theorem dX10_step_156 : decode cX10_step 156 = .ok (.iconst 5, 1) := by decide +kernel
theorem dX10_step_157 : decode cX10_step 157 = .ok (.goto 4, 3) := by decide +kernel
theorem dX10_step_160 : decode cX10_step 160 = .ok (.iconst 2, 1) := by decide +kernel
theorem dX10_step_161 : decode cX10_step 161 = .ok (.putfield 102, 3) := by decide +kernel
theorem dX10_step_164 : decode cX10_step 164 = .ok (.goto 96, 3) := by decide +kernel
theorem dX10_step_167 : decode cX10_step 167 = .ok (.iload_n 1, 1) := by decide +kernel
theorem dX10_step_168 : decode cX10_step 168 = .ok (.bipush 97, 2) := by decide +kernel
theorem dX10_step_170 : decode cX10_step 170 = .ok (.bipush 122, 2) := by decide +kernel
theorem dX10_step_172 : decode cX10_step 172 = .ok (.invokestatic 81, 3) := by decide +kernel
theorem dX10_step_175 : decode cX10_step 175 = .ok (.ifCond .eq 60, 3) := by decide +kernel
theorem dX10_step_178 : decode cX10_step 178 = .ok (.aload_n 0, 1) := by decide +kernel
theorem dX10_step_179 : decode cX10_step 179 = .ok (.invokevirtual 92, 3) := by decide +kernel
theorem dX10_step_182 : decode cX10_step 182 = .ok (.bipush 97, 2) := by decide +kernel
theorem dX10_step_184 : decode cX10_step 184 = .ok (.bipush 122, 2) := by decide +kernel
theorem dX10_step_186 : decode cX10_step 186 = .ok (.invokestatic 81, 3) := by decide +kernel
theorem dX10_step_189 : decode cX10_step 189 = .ok (.ifCond .eq 16, 3) := by decide +kernel
theorem dX10_step_192 : decode cX10_step 192 = .ok (.aload_n 0, 1) := by decide +kernel
theorem dX10_step_193 : decode cX10_step 193 = .ok (.dup, 1) := by decide +kernel
theorem dX10_step_194 : decode cX10_step 194 = .ok (.getfield 89, 3) := by decide +kernel
theorem dX10_step_197 : decode cX10_step 197 = .ok (.iconst 1, 1) := by decide +kernel
theorem dX10_step_198 : decode cX10_step 198 = .ok (.iadd, 1) := by decide +kernel
theorem dX10_step_199 : decode cX10_step 199 = .ok (.putfield 89, 3) := by decide +kernel
theorem dX10_step_202 : decode cX10_step 202 = .ok (.goto (-24), 3) := by decide +kernel
theorem dX10_step_205 : decode cX10_step 205 = .ok (.aload_n 0, 1) := by decide +kernel
theorem dX10_step_206 : decode cX10_step 206 = .ok (.aload_n 0, 1) := by decide +kernel
theorem dX10_step_207 : decode cX10_step 207 = .ok (.getfield 89, 3) := by decide +kernel
theorem dX10_step_210 : decode cX10_step 210 = .ok (.aload_n 0, 1) := by decide +kernel
theorem dX10_step_211 : decode cX10_step 211 = .ok (.getfield 96, 3) := by decide +kernel
theorem dX10_step_214 : decode cX10_step 214 = .ok (.isub, 1) := by decide +kernel
theorem dX10_step_215 : decode cX10_step 215 = .ok (.iconst 1, 1) := by decide +kernel
theorem dX10_step_216 : decode cX10_step 216 = .ok (.if_icmp .ne 7, 3) := by decide +kernel
theorem dX10_step_219 : decode cX10_step 219 = .ok (.iload_n 1, 1) := by decide +kernel
theorem dX10_step_220 : decode cX10_step 220 = .ok (.goto 4, 3) := by decide +kernel
theorem dX10_step_223 : decode cX10_step 223 = .ok (.iconst 0, 1) := by decide +kernel
theorem dX10_step_224 : decode cX10_step 224 = .ok (.putfield 99, 3) := by decide +kernel
theorem dX10_step_227 : decode cX10_step 227 = .ok (.aload_n 0, 1) := by decide +kernel
theorem dX10_step_228 : decode cX10_step 228 = .ok (.iconst 1, 1) := by decide +kernel
theorem dX10_step_229 : decode cX10_step 229 = .ok (.putfield 102, 3) := by decide +kernel
theorem dX10_step_232 : decode cX10_step 232 = .ok (.goto 28, 3) := by decide +kernel
theorem dX10_step_235 : decode cX10_step 235 = .ok (.aload_n 0, 1) := by decide +kernel
theorem dX10_step_236 : decode cX10_step 236 = .ok (.dup, 1) := by decide +kernel
theorem dX10_step_237 : decode cX10_step 237 = .ok (.getfield 89, 3) := by decide +kernel
theorem dX10_step_240 : decode cX10_step 240 = .ok (.iconst 1, 1) := by decide +kernel
theorem dX10_step_241 : decode cX10_step 241 = .ok (.iadd, 1) := by decide +kernel
theorem dX10_step_242 : decode cX10_step 242 = .ok (.putfield 89, 3) := by decide +kernel
theorem dX10_step_245 : decode cX10_step 245 = .ok (.aload_n 0, 1) := by decide +kernel
theorem dX10_step_246 : decode cX10_step 246 = .ok (.iload_n 1, 1) := by decide +kernel
theorem dX10_step_247 : decode cX10_step 247 = .ok (.bipush 59, 2) := by decide +kernel
theorem dX10_step_249 : decode cX10_step 249 = .ok (.if_icmp .ne 7, 3) := by decide +kernel
theorem dX10_step_252 : decode cX10_step 252 = .ok (.iconst 3, 1) := by decide +kernel
theorem dX10_step_253 : decode cX10_step 253 = .ok (.goto 4, 3) := by decide +kernel
theorem dX10_step_256 : decode cX10_step 256 = .ok (.iconst 5, 1) := by decide +kernel
theorem dX10_step_257 : decode cX10_step 257 = .ok (.putfield 102, 3) := by decide +kernel
theorem dX10_step_260 : decode cX10_step 260 = .ok (.return_, 1) := by decide +kernel
theorem dX10_due_0 : decode cX10_due 0 = .ok (.aload_n 0, 1) := by decide +kernel
theorem dX10_due_1 : decode cX10_due 1 = .ok (.getfield 105, 3) := by decide +kernel
theorem dX10_due_4 : decode cX10_due 4 = .ok (.ifCond .eq 4, 3) := by decide +kernel
theorem dX10_due_7 : decode cX10_due 7 = .ok (.return_, 1) := by decide +kernel
theorem dX10_due_8 : decode cX10_due 8 = .ok (.iload_n 1, 1) := by decide +kernel
theorem dX10_due_9 : decode cX10_due 9 = .ok (.ifCond .eq 10, 3) := by decide +kernel
theorem dX10_due_12 : decode cX10_due 12 = .ok (.aload_n 0, 1) := by decide +kernel
theorem dX10_due_13 : decode cX10_due 13 = .ok (.invokevirtual 109, 3) := by decide +kernel
theorem dX10_due_16 : decode cX10_due 16 = .ok (.goto 8, 3) := by decide +kernel
theorem dX10_due_19 : decode cX10_due 19 = .ok (.aload_n 0, 1) := by decide +kernel
theorem dX10_due_20 : decode cX10_due 20 = .ok (.iconst 1, 1) := by decide +kernel
theorem dX10_due_21 : decode cX10_due 21 = .ok (.putfield 105, 3) := by decide +kernel
theorem dX10_due_24 : decode cX10_due 24 = .ok (.return_, 1) := by decide +kernel
theorem dX10_number_0 : decode cX10_number 0 = .ok (.aload_n 0, 1) := by decide +kernel
theorem dX10_number_1 : decode cX10_number 1 = .ok (.getfield 99, 3) := by decide +kernel
theorem dX10_number_4 : decode cX10_number 4 = .ok (.istore_n 3, 1) := by decide +kernel
theorem dX10_number_5 : decode cX10_number 5 = .ok (.aload_n 0, 1) := by decide +kernel
theorem dX10_number_6 : decode cX10_number 6 = .ok (.aload_n 0, 1) := by decide +kernel
theorem dX10_number_7 : decode cX10_number 7 = .ok (.getfield 102, 3) := by decide +kernel
theorem dX10_number_10 : decode cX10_number 10 = .ok (.iconst 2, 1) := by decide +kernel
theorem dX10_number_11 : decode cX10_number 11 = .ok (.if_icmp .ne 16, 3) := by decide +kernel
theorem dX10_number_14 : decode cX10_number 14 = .ok (.iload_n 3, 1) := by decide +kernel
theorem dX10_number_15 : decode cX10_number 15 = .ok (.iload_n 1, 1) := by decide +kernel
theorem dX10_number_16 : decode cX10_number 16 = .ok (.iload_n 2, 1) := by decide +kernel
theorem dX10_number_17 : decode cX10_number 17 = .ok (.invokestatic 81, 3) := by decide +kernel
theorem dX10_number_20 : decode cX10_number 20 = .ok (.ifCond .eq 7, 3) := by decide +kernel
theorem dX10_number_23 : decode cX10_number 23 = .ok (.iconst 1, 1) := by decide +kernel
theorem dX10_number_24 : decode cX10_number 24 = .ok (.goto 4, 3) := by decide +kernel
theorem dX10_number_27 : decode cX10_number 27 = .ok (.iconst 0, 1) := by decide +kernel
theorem dX10_number_28 : decode cX10_number 28 = .ok (.invokevirtual 112, 3) := by decide +kernel
theorem dX10_number_31 : decode cX10_number 31 = .ok (.iload_n 3, 1) := by decide +kernel
theorem dX10_number_32 : decode cX10_number 32 = .ok (.ireturn, 1) := by decide +kernel
theorem dX10_item_0 : decode cX10_item 0 = .ok (.iload_n 1, 1) := by decide +kernel
theorem dX10_item_1 : decode cX10_item 1 = .ok (.lookupswitch 285 #[(98, 218), (102, 59), (107, 163), (110, 43)], 43) := by decide +kernel
theorem dX10_item_44 : decode cX10_item 44 = .ok (.aload_n 0, 1) := by decide +kernel
theorem dX10_item_45 : decode cX10_item 45 = .ok (.getfield 13, 3) := by decide +kernel
theorem dX10_item_48 : decode cX10_item 48 = .ok (.iconst 1, 1) := by decide +kernel
theorem dX10_item_49 : decode cX10_item 49 = .ok (.aload_n 0, 1) := by decide +kernel
theorem dX10_item_50 : decode cX10_item 50 = .ok (.iconst 1, 1) := by decide +kernel
theorem dX10_item_51 : decode cX10_item 51 = .ok (.bipush 8, 2) := by decide +kernel
theorem dX10_item_53 : decode cX10_item 53 = .ok (.invokevirtual 116, 3) := by decide +kernel
theorem dX10_item_56 : decode cX10_item 56 = .ok (.iastore, 1) := by decide +kernel
theorem dX10_item_57 : decode cX10_item 57 = .ok (.goto 242, 3) := by decide +kernel
theorem dX10_item_60 : decode cX10_item 60 = .ok (.bipush 8, 2) := by decide +kernel
theorem dX10_item_62 : decode cX10_item 62 = .ok (.aload_n 0, 1) := by decide +kernel
theorem dX10_item_63 : decode cX10_item 63 = .ok (.getfield 17, 3) := by decide +kernel
theorem dX10_item_66 : decode cX10_item 66 = .ok (.iconst 1, 1) := by decide +kernel
theorem dX10_item_67 : decode cX10_item 67 = .ok (.iaload, 1) := by decide +kernel
theorem dX10_item_68 : decode cX10_item 68 = .ok (.iadd, 1) := by decide +kernel
theorem dX10_item_69 : decode cX10_item 69 = .ok (.istore_n 2, 1) := by decide +kernel
theorem dX10_item_70 : decode cX10_item 70 = .ok (.aload_n 0, 1) := by decide +kernel
theorem dX10_item_71 : decode cX10_item 71 = .ok (.getfield 20, 3) := by decide +kernel
theorem dX10_item_74 : decode cX10_item 74 = .ok (.iload_n 2, 1) := by decide +kernel
theorem dX10_item_75 : decode cX10_item 75 = .ok (.aload_n 0, 1) := by decide +kernel
theorem dX10_item_76 : decode cX10_item 76 = .ok (.iconst 0, 1) := by decide +kernel
theorem dX10_item_77 : decode cX10_item 77 = .ok (.aload_n 0, 1) := by decide +kernel
theorem dX10_item_78 : decode cX10_item 78 = .ok (.getfield 13, 3) := by decide +kernel
theorem dX10_item_81 : decode cX10_item 81 = .ok (.iconst 1, 1) := by decide +kernel
theorem dX10_item_82 : decode cX10_item 82 = .ok (.iaload, 1) := by decide +kernel
theorem dX10_item_83 : decode cX10_item 83 = .ok (.iconst 1, 1) := by decide +kernel
theorem dX10_item_84 : decode cX10_item 84 = .ok (.isub, 1) := by decide +kernel
theorem dX10_item_85 : decode cX10_item 85 = .ok (.invokevirtual 116, 3) := by decide +kernel
theorem dX10_item_88 : decode cX10_item 88 = .ok (.iastore, 1) := by decide +kernel
theorem dX10_item_89 : decode cX10_item 89 = .ok (.aload_n 0, 1) := by decide +kernel
theorem dX10_item_90 : decode cX10_item 90 = .ok (.getfield 99, 3) := by decide +kernel
theorem dX10_item_93 : decode cX10_item 93 = .ok (.istore_n 3, 1) := by decide +kernel
theorem dX10_item_94 : decode cX10_item 94 = .ok (.aload_n 0, 1) := by decide +kernel
theorem dX10_item_95 : decode cX10_item 95 = .ok (.aload_n 0, 1) := by decide +kernel
theorem dX10_item_96 : decode cX10_item 96 = .ok (.getfield 102, 3) := by decide +kernel
theorem dX10_item_99 : decode cX10_item 99 = .ok (.iconst 2, 1) := by decide +kernel
theorem dX10_item_100 : decode cX10_item 100 = .ok (.if_icmp .ne 27, 3) := by decide +kernel
theorem dX10_item_103 : decode cX10_item 103 = .ok (.iload_n 3, 1) := by decide +kernel
theorem dX10_item_104 : decode cX10_item 104 = .ok (.aload_n 0, 1) := by decide +kernel
theorem dX10_item_105 : decode cX10_item 105 = .ok (.getfield 13, 3) := by decide +kernel
theorem dX10_item_108 : decode cX10_item 108 = .ok (.iconst 1, 1) := by decide +kernel
theorem dX10_item_109 : decode cX10_item 109 = .ok (.iaload, 1) := by decide +kernel
theorem dX10_item_110 : decode cX10_item 110 = .ok (.if_icmp .ge 17, 3) := by decide +kernel
theorem dX10_item_113 : decode cX10_item 113 = .ok (.iload_n 3, 1) := by decide +kernel
theorem dX10_item_114 : decode cX10_item 114 = .ok (.aload_n 0, 1) := by decide +kernel
theorem dX10_item_115 : decode cX10_item 115 = .ok (.getfield 20, 3) := by decide +kernel
theorem dX10_item_118 : decode cX10_item 118 = .ok (.iload_n 2, 1) := by decide +kernel
theorem dX10_item_119 : decode cX10_item 119 = .ok (.iaload, 1) := by decide +kernel
theorem dX10_item_120 : decode cX10_item 120 = .ok (.if_icmp .eq 7, 3) := by decide +kernel
theorem dX10_item_123 : decode cX10_item 123 = .ok (.iconst 1, 1) := by decide +kernel
theorem dX10_item_124 : decode cX10_item 124 = .ok (.goto 4, 3) := by decide +kernel
theorem dX10_item_127 : decode cX10_item 127 = .ok (.iconst 0, 1) := by decide +kernel
theorem dX10_item_128 : decode cX10_item 128 = .ok (.invokevirtual 112, 3) := by decide +kernel
theorem dX10_item_131 : decode cX10_item 131 = .ok (.aload_n 0, 1) := by decide +kernel
theorem dX10_item_132 : decode cX10_item 132 = .ok (.getfield 23, 3) := by decide +kernel
theorem dX10_item_135 : decode cX10_item 135 = .ok (.iload_n 2, 1) := by decide +kernel
theorem dX10_item_136 : decode cX10_item 136 = .ok (.iload_n 3, 1) := by decide +kernel
theorem dX10_item_137 : decode cX10_item 137 = .ok (.iastore, 1) := by decide +kernel
theorem dX10_item_138 : decode cX10_item 138 = .ok (.aload_n 0, 1) := by decide +kernel
theorem dX10_item_139 : decode cX10_item 139 = .ok (.getfield 26, 3) := by decide +kernel
theorem dX10_item_142 : decode cX10_item 142 = .ok (.iload_n 2, 1) := by decide +kernel
theorem dX10_item_143 : decode cX10_item 143 = .ok (.aload_n 0, 1) := by decide +kernel
theorem dX10_item_144 : decode cX10_item 144 = .ok (.iconst 0, 1) := by decide +kernel
theorem dX10_item_145 : decode cX10_item 145 = .ok (.bipush 40, 2) := by decide +kernel
theorem dX10_item_147 : decode cX10_item 147 = .ok (.invokevirtual 116, 3) := by decide +kernel
theorem dX10_item_150 : decode cX10_item 150 = .ok (.iastore, 1) := by decide +kernel
theorem dX10_item_151 : decode cX10_item 151 = .ok (.aload_n 0, 1) := by decide +kernel
theorem dX10_item_152 : decode cX10_item 152 = .ok (.getfield 17, 3) := by decide +kernel
theorem dX10_item_155 : decode cX10_item 155 = .ok (.iconst 1, 1) := by decide +kernel
theorem dX10_item_156 : decode cX10_item 156 = .ok (.dup2, 1) := by decide +kernel
theorem dX10_item_157 : decode cX10_item 157 = .ok (.iaload, 1) := by decide +kernel
theorem dX10_item_158 : decode cX10_item 158 = .ok (.iconst 1, 1) := by decide +kernel
theorem dX10_item_159 : decode cX10_item 159 = .ok (.iadd, 1) := by decide +kernel
theorem dX10_item_160 : decode cX10_item 160 = .ok (.iastore, 1) := by decide +kernel
theorem dX10_item_161 : decode cX10_item 161 = .ok (.goto 138, 3) := by decide +kernel
theorem dX10_item_164 : decode cX10_item 164 = .ok (.aload_n 0, 1) := by decide +kernel
theorem dX10_item_165 : decode cX10_item 165 = .ok (.getfield 32, 3) := by decide +kernel
theorem dX10_item_168 : decode cX10_item 168 = .ok (.iconst 4, 1) := by decide +kernel
theorem dX10_item_169 : decode cX10_item 169 = .ok (.aload_n 0, 1) := by decide +kernel
theorem dX10_item_170 : decode cX10_item 170 = .ok (.getfield 29, 3) := by decide +kernel
theorem dX10_item_173 : decode cX10_item 173 = .ok (.iconst 1, 1) := by decide +kernel
theorem dX10_item_174 : decode cX10_item 174 = .ok (.iaload, 1) := by decide +kernel
theorem dX10_item_175 : decode cX10_item 175 = .ok (.iadd, 1) := by decide +kernel
theorem dX10_item_176 : decode cX10_item 176 = .ok (.aload_n 0, 1) := by decide +kernel
theorem dX10_item_177 : decode cX10_item 177 = .ok (.iconst 0, 1) := by decide +kernel
theorem dX10_item_178 : decode cX10_item 178 = .ok (.bipush 6, 2) := by decide +kernel
theorem dX10_item_180 : decode cX10_item 180 = .ok (.invokevirtual 116, 3) := by decide +kernel
theorem dX10_item_183 : decode cX10_item 183 = .ok (.iconst 3, 1) := by decide +kernel
theorem dX10_item_184 : decode cX10_item 184 = .ok (.isub, 1) := by decide +kernel
theorem dX10_item_185 : decode cX10_item 185 = .ok (.iastore, 1) := by decide +kernel
theorem dX10_item_186 : decode cX10_item 186 = .ok (.aload_n 0, 1) := by decide +kernel
theorem dX10_item_187 : decode cX10_item 187 = .ok (.getfield 35, 3) := by decide +kernel
theorem dX10_item_190 : decode cX10_item 190 = .ok (.iconst 4, 1) := by decide +kernel
theorem dX10_item_191 : decode cX10_item 191 = .ok (.aload_n 0, 1) := by decide +kernel
theorem dX10_item_192 : decode cX10_item 192 = .ok (.getfield 29, 3) := by decide +kernel
theorem dX10_item_195 : decode cX10_item 195 = .ok (.iconst 1, 1) := by decide +kernel
theorem dX10_item_196 : decode cX10_item 196 = .ok (.iaload, 1) := by decide +kernel
theorem dX10_item_197 : decode cX10_item 197 = .ok (.iadd, 1) := by decide +kernel
theorem dX10_item_198 : decode cX10_item 198 = .ok (.aload_n 0, 1) := by decide +kernel
theorem dX10_item_199 : decode cX10_item 199 = .ok (.iconst 0, 1) := by decide +kernel
theorem dX10_item_200 : decode cX10_item 200 = .ok (.bipush 9, 2) := by decide +kernel
theorem dX10_item_202 : decode cX10_item 202 = .ok (.invokevirtual 116, 3) := by decide +kernel
theorem dX10_item_205 : decode cX10_item 205 = .ok (.iastore, 1) := by decide +kernel
theorem dX10_item_206 : decode cX10_item 206 = .ok (.aload_n 0, 1) := by decide +kernel
theorem dX10_item_207 : decode cX10_item 207 = .ok (.getfield 29, 3) := by decide +kernel
theorem dX10_item_210 : decode cX10_item 210 = .ok (.iconst 1, 1) := by decide +kernel
theorem dX10_item_211 : decode cX10_item 211 = .ok (.dup2, 1) := by decide +kernel
theorem dX10_item_212 : decode cX10_item 212 = .ok (.iaload, 1) := by decide +kernel
theorem dX10_item_213 : decode cX10_item 213 = .ok (.iconst 1, 1) := by decide +kernel
theorem dX10_item_214 : decode cX10_item 214 = .ok (.iadd, 1) := by decide +kernel
theorem dX10_item_215 : decode cX10_item 215 = .ok (.iastore, 1) := by decide +kernel
theorem dX10_item_216 : decode cX10_item 216 = .ok (.goto 83, 3) := by decide +kernel
theorem dX10_item_219 : decode cX10_item 219 = .ok (.aload_n 0, 1) := by decide +kernel
theorem dX10_item_220 : decode cX10_item 220 = .ok (.getfield 41, 3) := by decide +kernel
theorem dX10_item_223 : decode cX10_item 223 = .ok (.bipush 6, 2) := by decide +kernel
theorem dX10_item_225 : decode cX10_item 225 = .ok (.aload_n 0, 1) := by decide +kernel
theorem dX10_item_226 : decode cX10_item 226 = .ok (.getfield 38, 3) := by decide +kernel
theorem dX10_item_229 : decode cX10_item 229 = .ok (.iconst 1, 1) := by decide +kernel
theorem dX10_item_230 : decode cX10_item 230 = .ok (.iaload, 1) := by decide +kernel
theorem dX10_item_231 : decode cX10_item 231 = .ok (.iadd, 1) := by decide +kernel
theorem dX10_item_232 : decode cX10_item 232 = .ok (.aload_n 0, 1) := by decide +kernel
theorem dX10_item_233 : decode cX10_item 233 = .ok (.iconst 0, 1) := by decide +kernel
theorem dX10_item_234 : decode cX10_item 234 = .ok (.aload_n 0, 1) := by decide +kernel
theorem dX10_item_235 : decode cX10_item 235 = .ok (.getfield 29, 3) := by decide +kernel
theorem dX10_item_238 : decode cX10_item 238 = .ok (.iconst 1, 1) := by decide +kernel
theorem dX10_item_239 : decode cX10_item 239 = .ok (.iaload, 1) := by decide +kernel
theorem dX10_item_240 : decode cX10_item 240 = .ok (.iconst 1, 1) := by decide +kernel
theorem dX10_item_241 : decode cX10_item 241 = .ok (.isub, 1) := by decide +kernel
theorem dX10_item_242 : decode cX10_item 242 = .ok (.invokevirtual 116, 3) := by decide +kernel
theorem dX10_item_245 : decode cX10_item 245 = .ok (.iastore, 1) := by decide +kernel
theorem dX10_item_246 : decode cX10_item 246 = .ok (.aload_n 0, 1) := by decide +kernel
theorem dX10_item_247 : decode cX10_item 247 = .ok (.getfield 44, 3) := by decide +kernel
theorem dX10_item_250 : decode cX10_item 250 = .ok (.bipush 6, 2) := by decide +kernel
theorem dX10_item_252 : decode cX10_item 252 = .ok (.aload_n 0, 1) := by decide +kernel
theorem dX10_item_253 : decode cX10_item 253 = .ok (.getfield 38, 3) := by decide +kernel
theorem dX10_item_256 : decode cX10_item 256 = .ok (.iconst 1, 1) := by decide +kernel
theorem dX10_item_257 : decode cX10_item 257 = .ok (.iaload, 1) := by decide +kernel
theorem dX10_item_258 : decode cX10_item 258 = .ok (.iadd, 1) := by decide +kernel
theorem dX10_item_259 : decode cX10_item 259 = .ok (.aload_n 0, 1) := by decide +kernel
theorem dX10_item_260 : decode cX10_item 260 = .ok (.iconst 0, 1) := by decide +kernel
theorem dX10_item_261 : decode cX10_item 261 = .ok (.aload_n 0, 1) := by decide +kernel
theorem dX10_item_262 : decode cX10_item 262 = .ok (.getfield 13, 3) := by decide +kernel
theorem dX10_item_265 : decode cX10_item 265 = .ok (.iconst 1, 1) := by decide +kernel
theorem dX10_item_266 : decode cX10_item 266 = .ok (.iaload, 1) := by decide +kernel
theorem dX10_item_267 : decode cX10_item 267 = .ok (.iconst 1, 1) := by decide +kernel
theorem dX10_item_268 : decode cX10_item 268 = .ok (.isub, 1) := by decide +kernel
theorem dX10_item_269 : decode cX10_item 269 = .ok (.invokevirtual 116, 3) := by decide +kernel
theorem dX10_item_272 : decode cX10_item 272 = .ok (.iastore, 1) := by decide +kernel
theorem dX10_item_273 : decode cX10_item 273 = .ok (.aload_n 0, 1) := by decide +kernel
theorem dX10_item_274 : decode cX10_item 274 = .ok (.getfield 38, 3) := by decide +kernel
theorem dX10_item_277 : decode cX10_item 277 = .ok (.iconst 1, 1) := by decide +kernel
theorem dX10_item_278 : decode cX10_item 278 = .ok (.dup2, 1) := by decide +kernel
theorem dX10_item_279 : decode cX10_item 279 = .ok (.iaload, 1) := by decide +kernel
theorem dX10_item_280 : decode cX10_item 280 = .ok (.iconst 1, 1) := by decide +kernel
theorem dX10_item_281 : decode cX10_item 281 = .ok (.iadd, 1) := by decide +kernel
theorem dX10_item_282 : decode cX10_item 282 = .ok (.iastore, 1) := by decide +kernel
theorem dX10_item_283 : decode cX10_item 283 = .ok (.goto 16, 3) := by decide +kernel
theorem dX10_item_286 : decode cX10_item 286 = .ok (.aload_n 0, 1) := by decide +kernel
theorem dX10_item_287 : decode cX10_item 287 = .ok (.getfield 47, 3) := by decide +kernel
theorem dX10_item_290 : decode cX10_item 290 = .ok (.iconst 1, 1) := by decide +kernel
theorem dX10_item_291 : decode cX10_item 291 = .ok (.aload_n 0, 1) := by decide +kernel
theorem dX10_item_292 : decode cX10_item 292 = .ok (.iconst 0, 1) := by decide +kernel
theorem dX10_item_293 : decode cX10_item 293 = .ok (.bipush 9, 2) := by decide +kernel
theorem dX10_item_295 : decode cX10_item 295 = .ok (.invokevirtual 116, 3) := by decide +kernel
theorem dX10_item_298 : decode cX10_item 298 = .ok (.iastore, 1) := by decide +kernel
theorem dX10_item_299 : decode cX10_item 299 = .ok (.return_, 1) := by decide +kernel
theorem dX10_may_0 : decode cX10_may 0 = .ok (.iload_n 1, 1) := by decide +kernel
theorem dX10_may_1 : decode cX10_may 1 = .ok (.lookupswitch 106 #[(98, 89), (102, 56), (107, 73), (110, 43)], 43) := by decide +kernel
theorem dX10_may_44 : decode cX10_may 44 = .ok (.aload_n 0, 1) := by decide +kernel
theorem dX10_may_45 : decode cX10_may 45 = .ok (.getfield 120, 3) := by decide +kernel
theorem dX10_may_48 : decode cX10_may 48 = .ok (.ifCond .ne 7, 3) := by decide +kernel
theorem dX10_may_51 : decode cX10_may 51 = .ok (.iconst 1, 1) := by decide +kernel
theorem dX10_may_52 : decode cX10_may 52 = .ok (.goto 4, 3) := by decide +kernel
theorem dX10_may_55 : decode cX10_may 55 = .ok (.iconst 0, 1) := by decide +kernel
theorem dX10_may_56 : decode cX10_may 56 = .ok (.ireturn, 1) := by decide +kernel
theorem dX10_may_57 : decode cX10_may 57 = .ok (.aload_n 0, 1) := by decide +kernel
theorem dX10_may_58 : decode cX10_may 58 = .ok (.getfield 17, 3) := by decide +kernel
theorem dX10_may_61 : decode cX10_may 61 = .ok (.iconst 1, 1) := by decide +kernel
theorem dX10_may_62 : decode cX10_may 62 = .ok (.iaload, 1) := by decide +kernel
theorem dX10_may_63 : decode cX10_may 63 = .ok (.bipush 8, 2) := by decide +kernel
theorem dX10_may_65 : decode cX10_may 65 = .ok (.if_icmp .ge 7, 3) := by decide +kernel
theorem dX10_may_68 : decode cX10_may 68 = .ok (.iconst 1, 1) := by decide +kernel
theorem dX10_may_69 : decode cX10_may 69 = .ok (.goto 4, 3) := by decide +kernel
theorem dX10_may_72 : decode cX10_may 72 = .ok (.iconst 0, 1) := by decide +kernel
theorem dX10_may_73 : decode cX10_may 73 = .ok (.ireturn, 1) := by decide +kernel
theorem dX10_may_74 : decode cX10_may 74 = .ok (.aload_n 0, 1) := by decide +kernel
theorem dX10_may_75 : decode cX10_may 75 = .ok (.getfield 29, 3) := by decide +kernel
theorem dX10_may_78 : decode cX10_may 78 = .ok (.iconst 1, 1) := by decide +kernel
theorem dX10_may_79 : decode cX10_may 79 = .ok (.iaload, 1) := by decide +kernel
theorem dX10_may_80 : decode cX10_may 80 = .ok (.iconst 4, 1) := by decide +kernel
theorem dX10_may_81 : decode cX10_may 81 = .ok (.if_icmp .ge 7, 3) := by decide +kernel
theorem dX10_may_84 : decode cX10_may 84 = .ok (.iconst 1, 1) := by decide +kernel
theorem dX10_may_85 : decode cX10_may 85 = .ok (.goto 4, 3) := by decide +kernel
theorem dX10_may_88 : decode cX10_may 88 = .ok (.iconst 0, 1) := by decide +kernel
theorem dX10_may_89 : decode cX10_may 89 = .ok (.ireturn, 1) := by decide +kernel
theorem dX10_may_90 : decode cX10_may 90 = .ok (.aload_n 0, 1) := by decide +kernel
theorem dX10_may_91 : decode cX10_may 91 = .ok (.getfield 38, 3) := by decide +kernel
theorem dX10_may_94 : decode cX10_may 94 = .ok (.iconst 1, 1) := by decide +kernel
theorem dX10_may_95 : decode cX10_may 95 = .ok (.iaload, 1) := by decide +kernel
theorem dX10_may_96 : decode cX10_may 96 = .ok (.bipush 6, 2) := by decide +kernel
theorem dX10_may_98 : decode cX10_may 98 = .ok (.if_icmp .ge 7, 3) := by decide +kernel
theorem dX10_may_101 : decode cX10_may 101 = .ok (.iconst 1, 1) := by decide +kernel
theorem dX10_may_102 : decode cX10_may 102 = .ok (.goto 4, 3) := by decide +kernel
theorem dX10_may_105 : decode cX10_may 105 = .ok (.iconst 0, 1) := by decide +kernel
theorem dX10_may_106 : decode cX10_may 106 = .ok (.ireturn, 1) := by decide +kernel
theorem dX10_may_107 : decode cX10_may 107 = .ok (.iload_n 1, 1) := by decide +kernel
theorem dX10_may_108 : decode cX10_may 108 = .ok (.bipush 119, 2) := by decide +kernel
theorem dX10_may_110 : decode cX10_may 110 = .ok (.if_icmp .ne 11, 3) := by decide +kernel
theorem dX10_may_113 : decode cX10_may 113 = .ok (.iload_n 2, 1) := by decide +kernel
theorem dX10_may_114 : decode cX10_may 114 = .ok (.ifCond .ne 7, 3) := by decide +kernel
theorem dX10_may_117 : decode cX10_may 117 = .ok (.iconst 1, 1) := by decide +kernel
theorem dX10_may_118 : decode cX10_may 118 = .ok (.goto 4, 3) := by decide +kernel
theorem dX10_may_121 : decode cX10_may 121 = .ok (.iconst 0, 1) := by decide +kernel
theorem dX10_may_122 : decode cX10_may 122 = .ok (.ireturn, 1) := by decide +kernel
theorem dX10_read_0 : decode cX10_read 0 = .ok (.aload_n 0, 1) := by decide +kernel
theorem dX10_read_1 : decode cX10_read 1 = .ok (.iconst 0, 1) := by decide +kernel
theorem dX10_read_2 : decode cX10_read 2 = .ok (.putfield 89, 3) := by decide +kernel
theorem dX10_read_5 : decode cX10_read 5 = .ok (.aload_n 0, 1) := by decide +kernel
theorem dX10_read_6 : decode cX10_read 6 = .ok (.iconst 0, 1) := by decide +kernel
theorem dX10_read_7 : decode cX10_read 7 = .ok (.putfield 105, 3) := by decide +kernel
theorem dX10_read_10 : decode cX10_read 10 = .ok (.aload_n 0, 1) := by decide +kernel
theorem dX10_read_11 : decode cX10_read 11 = .ok (.iconst 0, 1) := by decide +kernel
theorem dX10_read_12 : decode cX10_read 12 = .ok (.putfield 120, 3) := by decide +kernel
theorem dX10_read_15 : decode cX10_read 15 = .ok (.aload_n 0, 1) := by decide +kernel
theorem dX10_read_16 : decode cX10_read 16 = .ok (.getfield 13, 3) := by decide +kernel
theorem dX10_read_19 : decode cX10_read 19 = .ok (.iconst 1, 1) := by decide +kernel
theorem dX10_read_20 : decode cX10_read 20 = .ok (.iconst 2, 1) := by decide +kernel
theorem dX10_read_21 : decode cX10_read 21 = .ok (.iastore, 1) := by decide +kernel
theorem dX10_read_22 : decode cX10_read 22 = .ok (.aload_n 0, 1) := by decide +kernel
theorem dX10_read_23 : decode cX10_read 23 = .ok (.getfield 17, 3) := by decide +kernel
theorem dX10_read_26 : decode cX10_read 26 = .ok (.iconst 1, 1) := by decide +kernel
theorem dX10_read_27 : decode cX10_read 27 = .ok (.iconst 0, 1) := by decide +kernel
theorem dX10_read_28 : decode cX10_read 28 = .ok (.iastore, 1) := by decide +kernel
theorem dX10_read_29 : decode cX10_read 29 = .ok (.aload_n 0, 1) := by decide +kernel
theorem dX10_read_30 : decode cX10_read 30 = .ok (.getfield 29, 3) := by decide +kernel
theorem dX10_read_33 : decode cX10_read 33 = .ok (.iconst 1, 1) := by decide +kernel
theorem dX10_read_34 : decode cX10_read 34 = .ok (.iconst 0, 1) := by decide +kernel
theorem dX10_read_35 : decode cX10_read 35 = .ok (.iastore, 1) := by decide +kernel
theorem dX10_read_36 : decode cX10_read 36 = .ok (.aload_n 0, 1) := by decide +kernel
theorem dX10_read_37 : decode cX10_read 37 = .ok (.getfield 38, 3) := by decide +kernel
theorem dX10_read_40 : decode cX10_read 40 = .ok (.iconst 1, 1) := by decide +kernel
theorem dX10_read_41 : decode cX10_read 41 = .ok (.iconst 0, 1) := by decide +kernel
theorem dX10_read_42 : decode cX10_read 42 = .ok (.iastore, 1) := by decide +kernel
theorem dX10_read_43 : decode cX10_read 43 = .ok (.aload_n 0, 1) := by decide +kernel
theorem dX10_read_44 : decode cX10_read 44 = .ok (.getfield 47, 3) := by decide +kernel
theorem dX10_read_47 : decode cX10_read 47 = .ok (.iconst 1, 1) := by decide +kernel
theorem dX10_read_48 : decode cX10_read 48 = .ok (.iconst 0, 1) := by decide +kernel
theorem dX10_read_49 : decode cX10_read 49 = .ok (.iastore, 1) := by decide +kernel
theorem dX10_read_50 : decode cX10_read 50 = .ok (.iconst 0, 1) := by decide +kernel
theorem dX10_read_51 : decode cX10_read 51 = .ok (.istore_n 1, 1) := by decide +kernel
theorem dX10_read_52 : decode cX10_read 52 = .ok (.aload_n 0, 1) := by decide +kernel
theorem dX10_read_53 : decode cX10_read 53 = .ok (.invokevirtual 109, 3) := by decide +kernel
theorem dX10_read_56 : decode cX10_read 56 = .ok (.aload_n 0, 1) := by decide +kernel
theorem dX10_read_57 : decode cX10_read 57 = .ok (.getfield 102, 3) := by decide +kernel
theorem dX10_read_60 : decode cX10_read 60 = .ok (.iconst 4, 1) := by decide +kernel
theorem dX10_read_61 : decode cX10_read 61 = .ok (.if_icmp .eq 111, 3) := by decide +kernel
theorem dX10_read_64 : decode cX10_read 64 = .ok (.aload_n 0, 1) := by decide +kernel
theorem dX10_read_65 : decode cX10_read 65 = .ok (.getfield 105, 3) := by decide +kernel
theorem dX10_read_68 : decode cX10_read 68 = .ok (.ifCond .ne 104, 3) := by decide +kernel
theorem dX10_read_71 : decode cX10_read 71 = .ok (.aload_n 0, 1) := by decide +kernel
theorem dX10_read_72 : decode cX10_read 72 = .ok (.getfield 102, 3) := by decide +kernel
theorem dX10_read_75 : decode cX10_read 75 = .ok (.iconst 1, 1) := by decide +kernel
theorem dX10_read_76 : decode cX10_read 76 = .ok (.if_icmp .ne 10, 3) := by decide +kernel
theorem dX10_read_79 : decode cX10_read 79 = .ok (.aload_n 0, 1) := by decide +kernel
theorem dX10_read_80 : decode cX10_read 80 = .ok (.getfield 99, 3) := by decide +kernel
theorem dX10_read_83 : decode cX10_read 83 = .ok (.goto 4, 3) := by decide +kernel
theorem dX10_read_86 : decode cX10_read 86 = .ok (.iconst 0, 1) := by decide +kernel
theorem dX10_read_87 : decode cX10_read 87 = .ok (.istore_n 2, 1) := by decide +kernel
theorem dX10_read_88 : decode cX10_read 88 = .ok (.aload_n 0, 1) := by decide +kernel
theorem dX10_read_89 : decode cX10_read 89 = .ok (.aload_n 0, 1) := by decide +kernel
theorem dX10_read_90 : decode cX10_read 90 = .ok (.getfield 102, 3) := by decide +kernel
theorem dX10_read_93 : decode cX10_read 93 = .ok (.iconst 1, 1) := by decide +kernel
theorem dX10_read_94 : decode cX10_read 94 = .ok (.if_icmp .ne 16, 3) := by decide +kernel
theorem dX10_read_97 : decode cX10_read 97 = .ok (.aload_n 0, 1) := by decide +kernel
theorem dX10_read_98 : decode cX10_read 98 = .ok (.iload_n 2, 1) := by decide +kernel
theorem dX10_read_99 : decode cX10_read 99 = .ok (.iload_n 1, 1) := by decide +kernel
theorem dX10_read_100 : decode cX10_read 100 = .ok (.invokevirtual 123, 3) := by decide +kernel
theorem dX10_read_103 : decode cX10_read 103 = .ok (.ifCond .eq 7, 3) := by decide +kernel
theorem dX10_read_106 : decode cX10_read 106 = .ok (.iconst 1, 1) := by decide +kernel
theorem dX10_read_107 : decode cX10_read 107 = .ok (.goto 4, 3) := by decide +kernel
theorem dX10_read_110 : decode cX10_read 110 = .ok (.iconst 0, 1) := by decide +kernel
theorem dX10_read_111 : decode cX10_read 111 = .ok (.invokevirtual 112, 3) := by decide +kernel
theorem dX10_read_114 : decode cX10_read 114 = .ok (.aload_n 0, 1) := by decide +kernel
theorem dX10_read_115 : decode cX10_read 115 = .ok (.getfield 105, 3) := by decide +kernel
theorem dX10_read_118 : decode cX10_read 118 = .ok (.ifCond .ne 51, 3) := by decide +kernel
theorem dX10_read_121 : decode cX10_read 121 = .ok (.iload_n 1, 1) := by decide +kernel
theorem dX10_read_122 : decode cX10_read 122 = .ok (.ifCond .ne 9, 3) := by decide +kernel
theorem dX10_read_125 : decode cX10_read 125 = .ok (.iload_n 2, 1) := by decide +kernel
theorem dX10_read_126 : decode cX10_read 126 = .ok (.bipush 119, 2) := by decide +kernel
theorem dX10_read_128 : decode cX10_read 128 = .ok (.if_icmp .ne 7, 3) := by decide +kernel
theorem dX10_read_131 : decode cX10_read 131 = .ok (.iconst 1, 1) := by decide +kernel
theorem dX10_read_132 : decode cX10_read 132 = .ok (.goto 4, 3) := by decide +kernel
theorem dX10_read_135 : decode cX10_read 135 = .ok (.iconst 0, 1) := by decide +kernel
theorem dX10_read_136 : decode cX10_read 136 = .ok (.istore_n 1, 1) := by decide +kernel
theorem dX10_read_137 : decode cX10_read 137 = .ok (.aload_n 0, 1) := by decide +kernel
theorem dX10_read_138 : decode cX10_read 138 = .ok (.iload_n 2, 1) := by decide +kernel
theorem dX10_read_139 : decode cX10_read 139 = .ok (.invokevirtual 127, 3) := by decide +kernel
theorem dX10_read_142 : decode cX10_read 142 = .ok (.aload_n 0, 1) := by decide +kernel
theorem dX10_read_143 : decode cX10_read 143 = .ok (.aload_n 0, 1) := by decide +kernel
theorem dX10_read_144 : decode cX10_read 144 = .ok (.getfield 102, 3) := by decide +kernel
theorem dX10_read_147 : decode cX10_read 147 = .ok (.iconst 3, 1) := by decide +kernel
theorem dX10_read_148 : decode cX10_read 148 = .ok (.if_icmp .ne 7, 3) := by decide +kernel
theorem dX10_read_151 : decode cX10_read 151 = .ok (.iconst 1, 1) := by decide +kernel
theorem dX10_read_152 : decode cX10_read 152 = .ok (.goto 4, 3) := by decide +kernel
theorem dX10_read_155 : decode cX10_read 155 = .ok (.iconst 0, 1) := by decide +kernel
theorem dX10_read_156 : decode cX10_read 156 = .ok (.invokevirtual 112, 3) := by decide +kernel
theorem dX10_read_159 : decode cX10_read 159 = .ok (.aload_n 0, 1) := by decide +kernel
theorem dX10_read_160 : decode cX10_read 160 = .ok (.dup, 1) := by decide +kernel
theorem dX10_read_161 : decode cX10_read 161 = .ok (.getfield 120, 3) := by decide +kernel
theorem dX10_read_164 : decode cX10_read 164 = .ok (.iconst 1, 1) := by decide +kernel
theorem dX10_read_165 : decode cX10_read 165 = .ok (.iadd, 1) := by decide +kernel
theorem dX10_read_166 : decode cX10_read 166 = .ok (.putfield 120, 3) := by decide +kernel
theorem dX10_read_169 : decode cX10_read 169 = .ok (.goto (-113), 3) := by decide +kernel
theorem dX10_read_172 : decode cX10_read 172 = .ok (.return_, 1) := by decide +kernel
theorem dX10_downs_0 : decode cX10_downs 0 = .ok (.aload_n 0, 1) := by decide +kernel
theorem dX10_downs_1 : decode cX10_downs 1 = .ok (.invokevirtual 131, 3) := by decide +kernel
theorem dX10_downs_4 : decode cX10_downs 4 = .ok (.aload_n 0, 1) := by decide +kernel
theorem dX10_downs_5 : decode cX10_downs 5 = .ok (.getfield 105, 3) := by decide +kernel
theorem dX10_downs_8 : decode cX10_downs 8 = .ok (.ifCond .eq 11, 3) := by decide +kernel
theorem dX10_downs_11 : decode cX10_downs 11 = .ok (.bipush (-10), 2) := by decide +kernel
theorem dX10_downs_13 : decode cX10_downs 13 = .ok (.aload_n 0, 1) := by decide +kernel
theorem dX10_downs_14 : decode cX10_downs 14 = .ok (.getfield 96, 3) := by decide +kernel
theorem dX10_downs_17 : decode cX10_downs 17 = .ok (.isub, 1) := by decide +kernel
theorem dX10_downs_18 : decode cX10_downs 18 = .ok (.ireturn, 1) := by decide +kernel
theorem dX10_downs_19 : decode cX10_downs 19 = .ok (.aload_n 0, 1) := by decide +kernel
theorem dX10_downs_20 : decode cX10_downs 20 = .ok (.getfield 13, 3) := by decide +kernel
theorem dX10_downs_23 : decode cX10_downs 23 = .ok (.iconst 0, 1) := by decide +kernel
theorem dX10_downs_24 : decode cX10_downs 24 = .ok (.aload_n 0, 1) := by decide +kernel
theorem dX10_downs_25 : decode cX10_downs 25 = .ok (.getfield 13, 3) := by decide +kernel
theorem dX10_downs_28 : decode cX10_downs 28 = .ok (.iconst 1, 1) := by decide +kernel
theorem dX10_downs_29 : decode cX10_downs 29 = .ok (.iaload, 1) := by decide +kernel
theorem dX10_downs_30 : decode cX10_downs 30 = .ok (.iastore, 1) := by decide +kernel
theorem dX10_downs_31 : decode cX10_downs 31 = .ok (.aload_n 0, 1) := by decide +kernel
theorem dX10_downs_32 : decode cX10_downs 32 = .ok (.getfield 17, 3) := by decide +kernel
theorem dX10_downs_35 : decode cX10_downs 35 = .ok (.iconst 0, 1) := by decide +kernel
theorem dX10_downs_36 : decode cX10_downs 36 = .ok (.aload_n 0, 1) := by decide +kernel
theorem dX10_downs_37 : decode cX10_downs 37 = .ok (.getfield 17, 3) := by decide +kernel
theorem dX10_downs_40 : decode cX10_downs 40 = .ok (.iconst 1, 1) := by decide +kernel
theorem dX10_downs_41 : decode cX10_downs 41 = .ok (.iaload, 1) := by decide +kernel
theorem dX10_downs_42 : decode cX10_downs 42 = .ok (.iastore, 1) := by decide +kernel
theorem dX10_downs_43 : decode cX10_downs 43 = .ok (.aload_n 0, 1) := by decide +kernel
theorem dX10_downs_44 : decode cX10_downs 44 = .ok (.getfield 29, 3) := by decide +kernel
theorem dX10_downs_47 : decode cX10_downs 47 = .ok (.iconst 0, 1) := by decide +kernel
theorem dX10_downs_48 : decode cX10_downs 48 = .ok (.aload_n 0, 1) := by decide +kernel
theorem dX10_downs_49 : decode cX10_downs 49 = .ok (.getfield 29, 3) := by decide +kernel
theorem dX10_downs_52 : decode cX10_downs 52 = .ok (.iconst 1, 1) := by decide +kernel
theorem dX10_downs_53 : decode cX10_downs 53 = .ok (.iaload, 1) := by decide +kernel
theorem dX10_downs_54 : decode cX10_downs 54 = .ok (.iastore, 1) := by decide +kernel
theorem dX10_downs_55 : decode cX10_downs 55 = .ok (.aload_n 0, 1) := by decide +kernel
theorem dX10_downs_56 : decode cX10_downs 56 = .ok (.getfield 38, 3) := by decide +kernel
theorem dX10_downs_59 : decode cX10_downs 59 = .ok (.iconst 0, 1) := by decide +kernel
theorem dX10_downs_60 : decode cX10_downs 60 = .ok (.aload_n 0, 1) := by decide +kernel
theorem dX10_downs_61 : decode cX10_downs 61 = .ok (.getfield 38, 3) := by decide +kernel
theorem dX10_downs_64 : decode cX10_downs 64 = .ok (.iconst 1, 1) := by decide +kernel
theorem dX10_downs_65 : decode cX10_downs 65 = .ok (.iaload, 1) := by decide +kernel
theorem dX10_downs_66 : decode cX10_downs 66 = .ok (.iastore, 1) := by decide +kernel
theorem dX10_downs_67 : decode cX10_downs 67 = .ok (.iconst 0, 1) := by decide +kernel
theorem dX10_downs_68 : decode cX10_downs 68 = .ok (.istore_n 1, 1) := by decide +kernel
theorem dX10_downs_69 : decode cX10_downs 69 = .ok (.iload_n 1, 1) := by decide +kernel
theorem dX10_downs_70 : decode cX10_downs 70 = .ok (.bipush 30, 2) := by decide +kernel
theorem dX10_downs_72 : decode cX10_downs 72 = .ok (.if_icmp .ge 16, 3) := by decide +kernel
theorem dX10_downs_75 : decode cX10_downs 75 = .ok (.aload_n 0, 1) := by decide +kernel
theorem dX10_downs_76 : decode cX10_downs 76 = .ok (.getfield 50, 3) := by decide +kernel
theorem dX10_downs_79 : decode cX10_downs 79 = .ok (.iload_n 1, 1) := by decide +kernel
theorem dX10_downs_80 : decode cX10_downs 80 = .ok (.iconst 0, 1) := by decide +kernel
theorem dX10_downs_81 : decode cX10_downs 81 = .ok (.iastore, 1) := by decide +kernel
theorem dX10_downs_82 : decode cX10_downs 82 = .ok (.iinc 1 1, 3) := by decide +kernel
theorem dX10_downs_85 : decode cX10_downs 85 = .ok (.goto (-16), 3) := by decide +kernel
theorem dX10_downs_88 : decode cX10_downs 88 = .ok (.iconst 0, 1) := by decide +kernel
theorem dX10_downs_89 : decode cX10_downs 89 = .ok (.istore_n 1, 1) := by decide +kernel
theorem dX10_downs_90 : decode cX10_downs 90 = .ok (.iload_n 1, 1) := by decide +kernel
theorem dX10_downs_91 : decode cX10_downs 91 = .ok (.bipush 8, 2) := by decide +kernel
theorem dX10_downs_93 : decode cX10_downs 93 = .ok (.if_icmp .ge 71, 3) := by decide +kernel
theorem dX10_downs_96 : decode cX10_downs 96 = .ok (.aload_n 0, 1) := by decide +kernel
theorem dX10_downs_97 : decode cX10_downs 97 = .ok (.getfield 20, 3) := by decide +kernel
theorem dX10_downs_100 : decode cX10_downs 100 = .ok (.iload_n 1, 1) := by decide +kernel
theorem dX10_downs_101 : decode cX10_downs 101 = .ok (.aload_n 0, 1) := by decide +kernel
theorem dX10_downs_102 : decode cX10_downs 102 = .ok (.getfield 20, 3) := by decide +kernel
theorem dX10_downs_105 : decode cX10_downs 105 = .ok (.bipush 8, 2) := by decide +kernel
theorem dX10_downs_107 : decode cX10_downs 107 = .ok (.iload_n 1, 1) := by decide +kernel
theorem dX10_downs_108 : decode cX10_downs 108 = .ok (.iadd, 1) := by decide +kernel
theorem dX10_downs_109 : decode cX10_downs 109 = .ok (.iaload, 1) := by decide +kernel
theorem dX10_downs_110 : decode cX10_downs 110 = .ok (.iastore, 1) := by decide +kernel
theorem dX10_downs_111 : decode cX10_downs 111 = .ok (.aload_n 0, 1) := by decide +kernel
theorem dX10_downs_112 : decode cX10_downs 112 = .ok (.getfield 23, 3) := by decide +kernel
theorem dX10_downs_115 : decode cX10_downs 115 = .ok (.iload_n 1, 1) := by decide +kernel
theorem dX10_downs_116 : decode cX10_downs 116 = .ok (.aload_n 0, 1) := by decide +kernel
theorem dX10_downs_117 : decode cX10_downs 117 = .ok (.getfield 23, 3) := by decide +kernel
theorem dX10_downs_120 : decode cX10_downs 120 = .ok (.bipush 8, 2) := by decide +kernel
theorem dX10_downs_122 : decode cX10_downs 122 = .ok (.iload_n 1, 1) := by decide +kernel
theorem dX10_downs_123 : decode cX10_downs 123 = .ok (.iadd, 1) := by decide +kernel
theorem dX10_downs_124 : decode cX10_downs 124 = .ok (.iaload, 1) := by decide +kernel
theorem dX10_downs_125 : decode cX10_downs 125 = .ok (.iastore, 1) := by decide +kernel
theorem dX10_downs_126 : decode cX10_downs 126 = .ok (.aload_n 0, 1) := by decide +kernel
theorem dX10_downs_127 : decode cX10_downs 127 = .ok (.getfield 50, 3) := by decide +kernel
theorem dX10_downs_130 : decode cX10_downs 130 = .ok (.bipush 6, 2) := by decide +kernel
theorem dX10_downs_132 : decode cX10_downs 132 = .ok (.iload_n 1, 1) := by decide +kernel
theorem dX10_downs_133 : decode cX10_downs 133 = .ok (.iadd, 1) := by decide +kernel
theorem dX10_downs_134 : decode cX10_downs 134 = .ok (.iload_n 1, 1) := by decide +kernel
theorem dX10_downs_135 : decode cX10_downs 135 = .ok (.aload_n 0, 1) := by decide +kernel
theorem dX10_downs_136 : decode cX10_downs 136 = .ok (.getfield 17, 3) := by decide +kernel
theorem dX10_downs_139 : decode cX10_downs 139 = .ok (.iconst 0, 1) := by decide +kernel
theorem dX10_downs_140 : decode cX10_downs 140 = .ok (.iaload, 1) := by decide +kernel
theorem dX10_downs_141 : decode cX10_downs 141 = .ok (.if_icmp .ge 15, 3) := by decide +kernel
theorem dX10_downs_144 : decode cX10_downs 144 = .ok (.aload_n 0, 1) := by decide +kernel
theorem dX10_downs_145 : decode cX10_downs 145 = .ok (.getfield 26, 3) := by decide +kernel
theorem dX10_downs_148 : decode cX10_downs 148 = .ok (.bipush 8, 2) := by decide +kernel
theorem dX10_downs_150 : decode cX10_downs 150 = .ok (.iload_n 1, 1) := by decide +kernel
theorem dX10_downs_151 : decode cX10_downs 151 = .ok (.iadd, 1) := by decide +kernel
theorem dX10_downs_152 : decode cX10_downs 152 = .ok (.iaload, 1) := by decide +kernel
theorem dX10_downs_153 : decode cX10_downs 153 = .ok (.goto 4, 3) := by decide +kernel
theorem dX10_downs_156 : decode cX10_downs 156 = .ok (.iconst 0, 1) := by decide +kernel
theorem dX10_downs_157 : decode cX10_downs 157 = .ok (.iastore, 1) := by decide +kernel
theorem dX10_downs_158 : decode cX10_downs 158 = .ok (.iinc 1 1, 3) := by decide +kernel
theorem dX10_downs_161 : decode cX10_downs 161 = .ok (.goto (-71), 3) := by decide +kernel
theorem dX10_downs_164 : decode cX10_downs 164 = .ok (.iconst 0, 1) := by decide +kernel
theorem dX10_downs_165 : decode cX10_downs 165 = .ok (.istore_n 1, 1) := by decide +kernel
theorem dX10_downs_166 : decode cX10_downs 166 = .ok (.iload_n 1, 1) := by decide +kernel
theorem dX10_downs_167 : decode cX10_downs 167 = .ok (.iconst 4, 1) := by decide +kernel
theorem dX10_downs_168 : decode cX10_downs 168 = .ok (.if_icmp .ge 37, 3) := by decide +kernel
theorem dX10_downs_171 : decode cX10_downs 171 = .ok (.aload_n 0, 1) := by decide +kernel
theorem dX10_downs_172 : decode cX10_downs 172 = .ok (.getfield 32, 3) := by decide +kernel
theorem dX10_downs_175 : decode cX10_downs 175 = .ok (.iload_n 1, 1) := by decide +kernel
theorem dX10_downs_176 : decode cX10_downs 176 = .ok (.aload_n 0, 1) := by decide +kernel
theorem dX10_downs_177 : decode cX10_downs 177 = .ok (.getfield 32, 3) := by decide +kernel
theorem dX10_downs_180 : decode cX10_downs 180 = .ok (.iconst 4, 1) := by decide +kernel
theorem dX10_downs_181 : decode cX10_downs 181 = .ok (.iload_n 1, 1) := by decide +kernel
theorem dX10_downs_182 : decode cX10_downs 182 = .ok (.iadd, 1) := by decide +kernel
theorem dX10_downs_183 : decode cX10_downs 183 = .ok (.iaload, 1) := by decide +kernel
theorem dX10_downs_184 : decode cX10_downs 184 = .ok (.iastore, 1) := by decide +kernel
theorem dX10_downs_185 : decode cX10_downs 185 = .ok (.aload_n 0, 1) := by decide +kernel
theorem dX10_downs_186 : decode cX10_downs 186 = .ok (.getfield 35, 3) := by decide +kernel
theorem dX10_downs_189 : decode cX10_downs 189 = .ok (.iload_n 1, 1) := by decide +kernel
theorem dX10_downs_190 : decode cX10_downs 190 = .ok (.aload_n 0, 1) := by decide +kernel
theorem dX10_downs_191 : decode cX10_downs 191 = .ok (.getfield 35, 3) := by decide +kernel
theorem dX10_downs_194 : decode cX10_downs 194 = .ok (.iconst 4, 1) := by decide +kernel
theorem dX10_downs_195 : decode cX10_downs 195 = .ok (.iload_n 1, 1) := by decide +kernel
theorem dX10_downs_196 : decode cX10_downs 196 = .ok (.iadd, 1) := by decide +kernel
theorem dX10_downs_197 : decode cX10_downs 197 = .ok (.iaload, 1) := by decide +kernel
theorem dX10_downs_198 : decode cX10_downs 198 = .ok (.iastore, 1) := by decide +kernel
theorem dX10_downs_199 : decode cX10_downs 199 = .ok (.iinc 1 1, 3) := by decide +kernel
theorem dX10_downs_202 : decode cX10_downs 202 = .ok (.goto (-36), 3) := by decide +kernel
theorem dX10_downs_205 : decode cX10_downs 205 = .ok (.iconst 0, 1) := by decide +kernel
theorem dX10_downs_206 : decode cX10_downs 206 = .ok (.istore_n 1, 1) := by decide +kernel
theorem dX10_downs_207 : decode cX10_downs 207 = .ok (.iload_n 1, 1) := by decide +kernel
theorem dX10_downs_208 : decode cX10_downs 208 = .ok (.bipush 6, 2) := by decide +kernel
theorem dX10_downs_210 : decode cX10_downs 210 = .ok (.if_icmp .ge 55, 3) := by decide +kernel
theorem dX10_downs_213 : decode cX10_downs 213 = .ok (.aload_n 0, 1) := by decide +kernel
theorem dX10_downs_214 : decode cX10_downs 214 = .ok (.getfield 41, 3) := by decide +kernel
theorem dX10_downs_217 : decode cX10_downs 217 = .ok (.iload_n 1, 1) := by decide +kernel
theorem dX10_downs_218 : decode cX10_downs 218 = .ok (.aload_n 0, 1) := by decide +kernel
theorem dX10_downs_219 : decode cX10_downs 219 = .ok (.getfield 41, 3) := by decide +kernel
theorem dX10_downs_222 : decode cX10_downs 222 = .ok (.bipush 6, 2) := by decide +kernel
theorem dX10_downs_224 : decode cX10_downs 224 = .ok (.iload_n 1, 1) := by decide +kernel
theorem dX10_downs_225 : decode cX10_downs 225 = .ok (.iadd, 1) := by decide +kernel
theorem dX10_downs_226 : decode cX10_downs 226 = .ok (.iaload, 1) := by decide +kernel
theorem dX10_downs_227 : decode cX10_downs 227 = .ok (.iastore, 1) := by decide +kernel
theorem dX10_downs_228 : decode cX10_downs 228 = .ok (.aload_n 0, 1) := by decide +kernel
theorem dX10_downs_229 : decode cX10_downs 229 = .ok (.getfield 50, 3) := by decide +kernel
theorem dX10_downs_232 : decode cX10_downs 232 = .ok (.iconst 0, 1) := by decide +kernel
theorem dX10_downs_233 : decode cX10_downs 233 = .ok (.iload_n 1, 1) := by decide +kernel
theorem dX10_downs_234 : decode cX10_downs 234 = .ok (.iadd, 1) := by decide +kernel
theorem dX10_downs_235 : decode cX10_downs 235 = .ok (.iload_n 1, 1) := by decide +kernel
theorem dX10_downs_236 : decode cX10_downs 236 = .ok (.aload_n 0, 1) := by decide +kernel
theorem dX10_downs_237 : decode cX10_downs 237 = .ok (.getfield 38, 3) := by decide +kernel
theorem dX10_downs_240 : decode cX10_downs 240 = .ok (.iconst 0, 1) := by decide +kernel
theorem dX10_downs_241 : decode cX10_downs 241 = .ok (.iaload, 1) := by decide +kernel
theorem dX10_downs_242 : decode cX10_downs 242 = .ok (.if_icmp .ge 15, 3) := by decide +kernel
theorem dX10_downs_245 : decode cX10_downs 245 = .ok (.aload_n 0, 1) := by decide +kernel
theorem dX10_downs_246 : decode cX10_downs 246 = .ok (.getfield 44, 3) := by decide +kernel
theorem dX10_downs_249 : decode cX10_downs 249 = .ok (.bipush 6, 2) := by decide +kernel
theorem dX10_downs_251 : decode cX10_downs 251 = .ok (.iload_n 1, 1) := by decide +kernel
theorem dX10_downs_252 : decode cX10_downs 252 = .ok (.iadd, 1) := by decide +kernel
theorem dX10_downs_253 : decode cX10_downs 253 = .ok (.iaload, 1) := by decide +kernel
theorem dX10_downs_254 : decode cX10_downs 254 = .ok (.goto 4, 3) := by decide +kernel
theorem dX10_downs_257 : decode cX10_downs 257 = .ok (.iconst 0, 1) := by decide +kernel
theorem dX10_downs_258 : decode cX10_downs 258 = .ok (.iastore, 1) := by decide +kernel
theorem dX10_downs_259 : decode cX10_downs 259 = .ok (.iinc 1 1, 3) := by decide +kernel
theorem dX10_downs_262 : decode cX10_downs 262 = .ok (.goto (-55), 3) := by decide +kernel
theorem dX10_downs_265 : decode cX10_downs 265 = .ok (.aload_n 0, 1) := by decide +kernel
theorem dX10_downs_266 : decode cX10_downs 266 = .ok (.getfield 50, 3) := by decide +kernel
theorem dX10_downs_269 : decode cX10_downs 269 = .ok (.bipush 16, 2) := by decide +kernel
theorem dX10_downs_271 : decode cX10_downs 271 = .ok (.aload_n 0, 1) := by decide +kernel
theorem dX10_downs_272 : decode cX10_downs 272 = .ok (.getfield 47, 3) := by decide +kernel
theorem dX10_downs_275 : decode cX10_downs 275 = .ok (.iconst 1, 1) := by decide +kernel
theorem dX10_downs_276 : decode cX10_downs 276 = .ok (.iaload, 1) := by decide +kernel
theorem dX10_downs_277 : decode cX10_downs 277 = .ok (.iastore, 1) := by decide +kernel
theorem dX10_downs_278 : decode cX10_downs 278 = .ok (.aload_n 0, 1) := by decide +kernel
theorem dX10_downs_279 : decode cX10_downs 279 = .ok (.getfield 53, 3) := by decide +kernel
theorem dX10_downs_282 : decode cX10_downs 282 = .ok (.iconst 0, 1) := by decide +kernel
theorem dX10_downs_283 : decode cX10_downs 283 = .ok (.iconst 0, 1) := by decide +kernel
theorem dX10_downs_284 : decode cX10_downs 284 = .ok (.iastore, 1) := by decide +kernel
theorem dX10_downs_285 : decode cX10_downs 285 = .ok (.aload_n 0, 1) := by decide +kernel
theorem dX10_downs_286 : decode cX10_downs 286 = .ok (.getfield 62, 3) := by decide +kernel
theorem dX10_downs_289 : decode cX10_downs 289 = .ok (.iconst 0, 1) := by decide +kernel
theorem dX10_downs_290 : decode cX10_downs 290 = .ok (.iconst 0, 1) := by decide +kernel
theorem dX10_downs_291 : decode cX10_downs 291 = .ok (.bastore, 1) := by decide +kernel
theorem dX10_downs_292 : decode cX10_downs 292 = .ok (.aload_n 0, 1) := by decide +kernel
theorem dX10_downs_293 : decode cX10_downs 293 = .ok (.getfield 62, 3) := by decide +kernel
theorem dX10_downs_296 : decode cX10_downs 296 = .ok (.iconst 1, 1) := by decide +kernel
theorem dX10_downs_297 : decode cX10_downs 297 = .ok (.iconst 0, 1) := by decide +kernel
theorem dX10_downs_298 : decode cX10_downs 298 = .ok (.bastore, 1) := by decide +kernel
theorem dX10_downs_299 : decode cX10_downs 299 = .ok (.aload_n 0, 1) := by decide +kernel
theorem dX10_downs_300 : decode cX10_downs 300 = .ok (.iconst 0, 1) := by decide +kernel
theorem dX10_downs_301 : decode cX10_downs 301 = .ok (.putfield 134, 3) := by decide +kernel
theorem dX10_downs_304 : decode cX10_downs 304 = .ok (.aload_n 0, 1) := by decide +kernel
theorem dX10_downs_305 : decode cX10_downs 305 = .ok (.iconst 0, 1) := by decide +kernel
theorem dX10_downs_306 : decode cX10_downs 306 = .ok (.putfield 85, 3) := by decide +kernel
theorem dX10_downs_309 : decode cX10_downs 309 = .ok (.aload_n 0, 1) := by decide +kernel
theorem dX10_downs_310 : decode cX10_downs 310 = .ok (.getfield 120, 3) := by decide +kernel
theorem dX10_downs_313 : decode cX10_downs 313 = .ok (.ireturn, 1) := by decide +kernel
theorem dX10_isField_0 : decode cX10_isField 0 = .ok (.iload_n 1, 1) := by decide +kernel
theorem dX10_isField_1 : decode cX10_isField 1 = .ok (.iconst 0, 1) := by decide +kernel
theorem dX10_isField_2 : decode cX10_isField 2 = .ok (.aload_n 0, 1) := by decide +kernel
theorem dX10_isField_3 : decode cX10_isField 3 = .ok (.getfield 13, 3) := by decide +kernel
theorem dX10_isField_6 : decode cX10_isField 6 = .ok (.iconst 0, 1) := by decide +kernel
theorem dX10_isField_7 : decode cX10_isField 7 = .ok (.iaload, 1) := by decide +kernel
theorem dX10_isField_8 : decode cX10_isField 8 = .ok (.iconst 1, 1) := by decide +kernel
theorem dX10_isField_9 : decode cX10_isField 9 = .ok (.isub, 1) := by decide +kernel
theorem dX10_isField_10 : decode cX10_isField 10 = .ok (.invokestatic 81, 3) := by decide +kernel
theorem dX10_isField_13 : decode cX10_isField 13 = .ok (.ireturn, 1) := by decide +kernel
theorem dX10_isFence_0 : decode cX10_isFence 0 = .ok (.iload_n 1, 1) := by decide +kernel
theorem dX10_isFence_1 : decode cX10_isFence 1 = .ok (.iconst 0, 1) := by decide +kernel
theorem dX10_isFence_2 : decode cX10_isFence 2 = .ok (.aload_n 0, 1) := by decide +kernel
theorem dX10_isFence_3 : decode cX10_isFence 3 = .ok (.getfield 17, 3) := by decide +kernel
theorem dX10_isFence_6 : decode cX10_isFence 6 = .ok (.iconst 0, 1) := by decide +kernel
theorem dX10_isFence_7 : decode cX10_isFence 7 = .ok (.iaload, 1) := by decide +kernel
theorem dX10_isFence_8 : decode cX10_isFence 8 = .ok (.iconst 1, 1) := by decide +kernel
theorem dX10_isFence_9 : decode cX10_isFence 9 = .ok (.isub, 1) := by decide +kernel
theorem dX10_isFence_10 : decode cX10_isFence 10 = .ok (.invokestatic 81, 3) := by decide +kernel
theorem dX10_isFence_13 : decode cX10_isFence 13 = .ok (.ireturn, 1) := by decide +kernel
theorem dX10_isKind_0 : decode cX10_isKind 0 = .ok (.iload_n 1, 1) := by decide +kernel
theorem dX10_isKind_1 : decode cX10_isKind 1 = .ok (.iconst 0, 1) := by decide +kernel
theorem dX10_isKind_2 : decode cX10_isKind 2 = .ok (.aload_n 0, 1) := by decide +kernel
theorem dX10_isKind_3 : decode cX10_isKind 3 = .ok (.getfield 29, 3) := by decide +kernel
theorem dX10_isKind_6 : decode cX10_isKind 6 = .ok (.iconst 0, 1) := by decide +kernel
theorem dX10_isKind_7 : decode cX10_isKind 7 = .ok (.iaload, 1) := by decide +kernel
theorem dX10_isKind_8 : decode cX10_isKind 8 = .ok (.iconst 1, 1) := by decide +kernel
theorem dX10_isKind_9 : decode cX10_isKind 9 = .ok (.isub, 1) := by decide +kernel
theorem dX10_isKind_10 : decode cX10_isKind 10 = .ok (.invokestatic 81, 3) := by decide +kernel
theorem dX10_isKind_13 : decode cX10_isKind 13 = .ok (.ireturn, 1) := by decide +kernel
theorem dX10_isBeast_0 : decode cX10_isBeast 0 = .ok (.iload_n 1, 1) := by decide +kernel
theorem dX10_isBeast_1 : decode cX10_isBeast 1 = .ok (.iconst 0, 1) := by decide +kernel
theorem dX10_isBeast_2 : decode cX10_isBeast 2 = .ok (.aload_n 0, 1) := by decide +kernel
theorem dX10_isBeast_3 : decode cX10_isBeast 3 = .ok (.getfield 38, 3) := by decide +kernel
theorem dX10_isBeast_6 : decode cX10_isBeast 6 = .ok (.iconst 0, 1) := by decide +kernel
theorem dX10_isBeast_7 : decode cX10_isBeast 7 = .ok (.iaload, 1) := by decide +kernel
theorem dX10_isBeast_8 : decode cX10_isBeast 8 = .ok (.iconst 1, 1) := by decide +kernel
theorem dX10_isBeast_9 : decode cX10_isBeast 9 = .ok (.isub, 1) := by decide +kernel
theorem dX10_isBeast_10 : decode cX10_isBeast 10 = .ok (.invokestatic 81, 3) := by decide +kernel
theorem dX10_isBeast_13 : decode cX10_isBeast 13 = .ok (.ireturn, 1) := by decide +kernel
theorem dX10_soundOf_0 : decode cX10_soundOf 0 = .ok (.aload_n 0, 1) := by decide +kernel
theorem dX10_soundOf_1 : decode cX10_soundOf 1 = .ok (.getfield 50, 3) := by decide +kernel
theorem dX10_soundOf_4 : decode cX10_soundOf 4 = .ok (.bipush 6, 2) := by decide +kernel
theorem dX10_soundOf_6 : decode cX10_soundOf 6 = .ok (.iload_n 2, 1) := by decide +kernel
theorem dX10_soundOf_7 : decode cX10_soundOf 7 = .ok (.iadd, 1) := by decide +kernel
theorem dX10_soundOf_8 : decode cX10_soundOf 8 = .ok (.iaload, 1) := by decide +kernel
theorem dX10_soundOf_9 : decode cX10_soundOf 9 = .ok (.ifCond .eq 31, 3) := by decide +kernel
theorem dX10_soundOf_12 : decode cX10_soundOf 12 = .ok (.aload_n 0, 1) := by decide +kernel
theorem dX10_soundOf_13 : decode cX10_soundOf 13 = .ok (.getfield 50, 3) := by decide +kernel
theorem dX10_soundOf_16 : decode cX10_soundOf 16 = .ok (.bipush 14, 2) := by decide +kernel
theorem dX10_soundOf_18 : decode cX10_soundOf 18 = .ok (.iaload, 1) := by decide +kernel
theorem dX10_soundOf_19 : decode cX10_soundOf 19 = .ok (.iload_n 2, 1) := by decide +kernel
theorem dX10_soundOf_20 : decode cX10_soundOf 20 = .ok (.invokestatic 137, 3) := by decide +kernel
theorem dX10_soundOf_23 : decode cX10_soundOf 23 = .ok (.ifCond .ne 17, 3) := by decide +kernel
theorem dX10_soundOf_26 : decode cX10_soundOf 26 = .ok (.aload_n 0, 1) := by decide +kernel
theorem dX10_soundOf_27 : decode cX10_soundOf 27 = .ok (.getfield 50, 3) := by decide +kernel
theorem dX10_soundOf_30 : decode cX10_soundOf 30 = .ok (.bipush 15, 2) := by decide +kernel
theorem dX10_soundOf_32 : decode cX10_soundOf 32 = .ok (.iaload, 1) := by decide +kernel
theorem dX10_soundOf_33 : decode cX10_soundOf 33 = .ok (.iload_n 2, 1) := by decide +kernel
theorem dX10_soundOf_34 : decode cX10_soundOf 34 = .ok (.invokestatic 137, 3) := by decide +kernel
theorem dX10_soundOf_37 : decode cX10_soundOf 37 = .ok (.ifCond .eq 5, 3) := by decide +kernel
theorem dX10_soundOf_40 : decode cX10_soundOf 40 = .ok (.iconst 0, 1) := by decide +kernel
theorem dX10_soundOf_41 : decode cX10_soundOf 41 = .ok (.ireturn, 1) := by decide +kernel
theorem dX10_soundOf_42 : decode cX10_soundOf 42 = .ok (.aload_n 0, 1) := by decide +kernel
theorem dX10_soundOf_43 : decode cX10_soundOf 43 = .ok (.getfield 50, 3) := by decide +kernel
theorem dX10_soundOf_46 : decode cX10_soundOf 46 = .ok (.bipush 6, 2) := by decide +kernel
theorem dX10_soundOf_48 : decode cX10_soundOf 48 = .ok (.iload_n 2, 1) := by decide +kernel
theorem dX10_soundOf_49 : decode cX10_soundOf 49 = .ok (.iadd, 1) := by decide +kernel
theorem dX10_soundOf_50 : decode cX10_soundOf 50 = .ok (.iaload, 1) := by decide +kernel
theorem dX10_soundOf_51 : decode cX10_soundOf 51 = .ok (.aload_n 0, 1) := by decide +kernel
theorem dX10_soundOf_52 : decode cX10_soundOf 52 = .ok (.getfield 32, 3) := by decide +kernel
theorem dX10_soundOf_55 : decode cX10_soundOf 55 = .ok (.iload_n 1, 1) := by decide +kernel
theorem dX10_soundOf_56 : decode cX10_soundOf 56 = .ok (.iaload, 1) := by decide +kernel
theorem dX10_soundOf_57 : decode cX10_soundOf 57 = .ok (.iadd, 1) := by decide +kernel
theorem dX10_soundOf_58 : decode cX10_soundOf 58 = .ok (.aload_n 0, 1) := by decide +kernel
theorem dX10_soundOf_59 : decode cX10_soundOf 59 = .ok (.getfield 50, 3) := by decide +kernel
theorem dX10_soundOf_62 : decode cX10_soundOf 62 = .ok (.bipush 16, 2) := by decide +kernel
theorem dX10_soundOf_64 : decode cX10_soundOf 64 = .ok (.iaload, 1) := by decide +kernel
theorem dX10_soundOf_65 : decode cX10_soundOf 65 = .ok (.isub, 1) := by decide +kernel
theorem dX10_soundOf_66 : decode cX10_soundOf 66 = .ok (.istore_n 3, 1) := by decide +kernel
theorem dX10_soundOf_67 : decode cX10_soundOf 67 = .ok (.iload_n 3, 1) := by decide +kernel
theorem dX10_soundOf_68 : decode cX10_soundOf 68 = .ok (.ifCond .ge 7, 3) := by decide +kernel
theorem dX10_soundOf_71 : decode cX10_soundOf 71 = .ok (.iconst 0, 1) := by decide +kernel
theorem dX10_soundOf_72 : decode cX10_soundOf 72 = .ok (.goto 4, 3) := by decide +kernel
theorem dX10_soundOf_75 : decode cX10_soundOf 75 = .ok (.iload_n 3, 1) := by decide +kernel
theorem dX10_soundOf_76 : decode cX10_soundOf 76 = .ok (.ireturn, 1) := by decide +kernel
theorem dX10_isAt_0 : decode cX10_isAt 0 = .ok (.aload_n 0, 1) := by decide +kernel
theorem dX10_isAt_1 : decode cX10_isAt 1 = .ok (.getfield 20, 3) := by decide +kernel
theorem dX10_isAt_4 : decode cX10_isAt 4 = .ok (.iload_n 1, 1) := by decide +kernel
theorem dX10_isAt_5 : decode cX10_isAt 5 = .ok (.iaload, 1) := by decide +kernel
theorem dX10_isAt_6 : decode cX10_isAt 6 = .ok (.iload_n 2, 1) := by decide +kernel
theorem dX10_isAt_7 : decode cX10_isAt 7 = .ok (.if_icmp .eq 13, 3) := by decide +kernel
theorem dX10_isAt_10 : decode cX10_isAt 10 = .ok (.aload_n 0, 1) := by decide +kernel
theorem dX10_isAt_11 : decode cX10_isAt 11 = .ok (.getfield 23, 3) := by decide +kernel
theorem dX10_isAt_14 : decode cX10_isAt 14 = .ok (.iload_n 1, 1) := by decide +kernel
theorem dX10_isAt_15 : decode cX10_isAt 15 = .ok (.iaload, 1) := by decide +kernel
theorem dX10_isAt_16 : decode cX10_isAt 16 = .ok (.iload_n 2, 1) := by decide +kernel
theorem dX10_isAt_17 : decode cX10_isAt 17 = .ok (.if_icmp .ne 7, 3) := by decide +kernel
theorem dX10_isAt_20 : decode cX10_isAt 20 = .ok (.iconst 1, 1) := by decide +kernel
theorem dX10_isAt_21 : decode cX10_isAt 21 = .ok (.goto 4, 3) := by decide +kernel
theorem dX10_isAt_24 : decode cX10_isAt 24 = .ok (.iconst 0, 1) := by decide +kernel
theorem dX10_isAt_25 : decode cX10_isAt 25 = .ok (.ireturn, 1) := by decide +kernel
theorem dX10_across_0 : decode cX10_across 0 = .ok (.aload_n 0, 1) := by decide +kernel
theorem dX10_across_1 : decode cX10_across 1 = .ok (.getfield 20, 3) := by decide +kernel
theorem dX10_across_4 : decode cX10_across 4 = .ok (.iload_n 1, 1) := by decide +kernel
theorem dX10_across_5 : decode cX10_across 5 = .ok (.iaload, 1) := by decide +kernel
theorem dX10_across_6 : decode cX10_across 6 = .ok (.iload_n 2, 1) := by decide +kernel
theorem dX10_across_7 : decode cX10_across 7 = .ok (.if_icmp .ne 12, 3) := by decide +kernel
theorem dX10_across_10 : decode cX10_across 10 = .ok (.aload_n 0, 1) := by decide +kernel
theorem dX10_across_11 : decode cX10_across 11 = .ok (.getfield 23, 3) := by decide +kernel
theorem dX10_across_14 : decode cX10_across 14 = .ok (.iload_n 1, 1) := by decide +kernel
theorem dX10_across_15 : decode cX10_across 15 = .ok (.iaload, 1) := by decide +kernel
theorem dX10_across_16 : decode cX10_across 16 = .ok (.goto 9, 3) := by decide +kernel
theorem dX10_across_19 : decode cX10_across 19 = .ok (.aload_n 0, 1) := by decide +kernel
theorem dX10_across_20 : decode cX10_across 20 = .ok (.getfield 20, 3) := by decide +kernel
theorem dX10_across_23 : decode cX10_across 23 = .ok (.iload_n 1, 1) := by decide +kernel
theorem dX10_across_24 : decode cX10_across 24 = .ok (.iaload, 1) := by decide +kernel
theorem dX10_across_25 : decode cX10_across 25 = .ok (.ireturn, 1) := by decide +kernel
theorem dX10_isString_0 : decode cX10_isString 0 = .ok (.aload_n 0, 1) := by decide +kernel
theorem dX10_isString_1 : decode cX10_isString 1 = .ok (.getfield 50, 3) := by decide +kernel
theorem dX10_isString_4 : decode cX10_isString 4 = .ok (.bipush 6, 2) := by decide +kernel
theorem dX10_isString_6 : decode cX10_isString 6 = .ok (.iload_n 1, 1) := by decide +kernel
theorem dX10_isString_7 : decode cX10_isString 7 = .ok (.iadd, 1) := by decide +kernel
theorem dX10_isString_8 : decode cX10_isString 8 = .ok (.iaload, 1) := by decide +kernel
theorem dX10_isString_9 : decode cX10_isString 9 = .ok (.ifCond .eq 21, 3) := by decide +kernel
theorem dX10_isString_12 : decode cX10_isString 12 = .ok (.aload_n 0, 1) := by decide +kernel
theorem dX10_isString_13 : decode cX10_isString 13 = .ok (.getfield 50, 3) := by decide +kernel
theorem dX10_isString_16 : decode cX10_isString 16 = .ok (.bipush 14, 2) := by decide +kernel
theorem dX10_isString_18 : decode cX10_isString 18 = .ok (.iaload, 1) := by decide +kernel
theorem dX10_isString_19 : decode cX10_isString 19 = .ok (.iload_n 1, 1) := by decide +kernel
theorem dX10_isString_20 : decode cX10_isString 20 = .ok (.invokestatic 137, 3) := by decide +kernel
theorem dX10_isString_23 : decode cX10_isString 23 = .ok (.ifCond .ne 7, 3) := by decide +kernel
theorem dX10_isString_26 : decode cX10_isString 26 = .ok (.iconst 1, 1) := by decide +kernel
theorem dX10_isString_27 : decode cX10_isString 27 = .ok (.goto 4, 3) := by decide +kernel
theorem dX10_isString_30 : decode cX10_isString 30 = .ok (.iconst 0, 1) := by decide +kernel
theorem dX10_isString_31 : decode cX10_isString 31 = .ok (.ireturn, 1) := by decide +kernel
theorem dX10_bitsOf_0 : decode cX10_bitsOf 0 = .ok (.iconst 0, 1) := by decide +kernel
theorem dX10_bitsOf_1 : decode cX10_bitsOf 1 = .ok (.istore_n 1, 1) := by decide +kernel
theorem dX10_bitsOf_2 : decode cX10_bitsOf 2 = .ok (.iconst 0, 1) := by decide +kernel
theorem dX10_bitsOf_3 : decode cX10_bitsOf 3 = .ok (.istore_n 2, 1) := by decide +kernel
theorem dX10_bitsOf_4 : decode cX10_bitsOf 4 = .ok (.iload_n 2, 1) := by decide +kernel
theorem dX10_bitsOf_5 : decode cX10_bitsOf 5 = .ok (.bipush 8, 2) := by decide +kernel
theorem dX10_bitsOf_7 : decode cX10_bitsOf 7 = .ok (.if_icmp .ge 17, 3) := by decide +kernel
theorem dX10_bitsOf_10 : decode cX10_bitsOf 10 = .ok (.iload_n 1, 1) := by decide +kernel
theorem dX10_bitsOf_11 : decode cX10_bitsOf 11 = .ok (.iload_n 0, 1) := by decide +kernel
theorem dX10_bitsOf_12 : decode cX10_bitsOf 12 = .ok (.iload_n 2, 1) := by decide +kernel
theorem dX10_bitsOf_13 : decode cX10_bitsOf 13 = .ok (.ishr, 1) := by decide +kernel
theorem dX10_bitsOf_14 : decode cX10_bitsOf 14 = .ok (.iconst 1, 1) := by decide +kernel
theorem dX10_bitsOf_15 : decode cX10_bitsOf 15 = .ok (.iand, 1) := by decide +kernel
theorem dX10_bitsOf_16 : decode cX10_bitsOf 16 = .ok (.iadd, 1) := by decide +kernel
theorem dX10_bitsOf_17 : decode cX10_bitsOf 17 = .ok (.istore_n 1, 1) := by decide +kernel
theorem dX10_bitsOf_18 : decode cX10_bitsOf 18 = .ok (.iinc 2 1, 3) := by decide +kernel
theorem dX10_bitsOf_21 : decode cX10_bitsOf 21 = .ok (.goto (-17), 3) := by decide +kernel
theorem dX10_bitsOf_24 : decode cX10_bitsOf 24 = .ok (.iload_n 1, 1) := by decide +kernel
theorem dX10_bitsOf_25 : decode cX10_bitsOf 25 = .ok (.ireturn, 1) := by decide +kernel
theorem dX10_allOf_0 : decode cX10_allOf 0 = .ok (.iconst 1, 1) := by decide +kernel
theorem dX10_allOf_1 : decode cX10_allOf 1 = .ok (.iload_n 0, 1) := by decide +kernel
theorem dX10_allOf_2 : decode cX10_allOf 2 = .ok (.ishl, 1) := by decide +kernel
theorem dX10_allOf_3 : decode cX10_allOf 3 = .ok (.iconst 1, 1) := by decide +kernel
theorem dX10_allOf_4 : decode cX10_allOf 4 = .ok (.isub, 1) := by decide +kernel
theorem dX10_allOf_5 : decode cX10_allOf 5 = .ok (.ireturn, 1) := by decide +kernel
theorem dX10_fence_0 : decode cX10_fence 0 = .ok (.aload_n 0, 1) := by decide +kernel
theorem dX10_fence_1 : decode cX10_fence 1 = .ok (.iload_n 1, 1) := by decide +kernel
theorem dX10_fence_2 : decode cX10_fence 2 = .ok (.invokevirtual 141, 3) := by decide +kernel
theorem dX10_fence_5 : decode cX10_fence 5 = .ok (.ifCond .ne 5, 3) := by decide +kernel
theorem dX10_fence_8 : decode cX10_fence 8 = .ok (.iconst (-1), 1) := by decide +kernel
theorem dX10_fence_9 : decode cX10_fence 9 = .ok (.ireturn, 1) := by decide +kernel
theorem dX10_fence_10 : decode cX10_fence 10 = .ok (.iload_n 2, 1) := by decide +kernel
theorem dX10_fence_11 : decode cX10_fence 11 = .ok (.tableswitch 97 0 4 #[33, 40, 47, 57, 77], 33) := by decide +kernel
theorem dX10_fence_44 : decode cX10_fence 44 = .ok (.aload_n 0, 1) := by decide +kernel
theorem dX10_fence_45 : decode cX10_fence 45 = .ok (.getfield 20, 3) := by decide +kernel
theorem dX10_fence_48 : decode cX10_fence 48 = .ok (.iload_n 1, 1) := by decide +kernel
theorem dX10_fence_49 : decode cX10_fence 49 = .ok (.iaload, 1) := by decide +kernel
theorem dX10_fence_50 : decode cX10_fence 50 = .ok (.ireturn, 1) := by decide +kernel
theorem dX10_fence_51 : decode cX10_fence 51 = .ok (.aload_n 0, 1) := by decide +kernel
theorem dX10_fence_52 : decode cX10_fence 52 = .ok (.getfield 23, 3) := by decide +kernel
theorem dX10_fence_55 : decode cX10_fence 55 = .ok (.iload_n 1, 1) := by decide +kernel
theorem dX10_fence_56 : decode cX10_fence 56 = .ok (.iaload, 1) := by decide +kernel
theorem dX10_fence_57 : decode cX10_fence 57 = .ok (.ireturn, 1) := by decide +kernel
theorem dX10_fence_58 : decode cX10_fence 58 = .ok (.aload_n 0, 1) := by decide +kernel
theorem dX10_fence_59 : decode cX10_fence 59 = .ok (.getfield 50, 3) := by decide +kernel
theorem dX10_fence_62 : decode cX10_fence 62 = .ok (.bipush 6, 2) := by decide +kernel
theorem dX10_fence_64 : decode cX10_fence 64 = .ok (.iload_n 1, 1) := by decide +kernel
theorem dX10_fence_65 : decode cX10_fence 65 = .ok (.iadd, 1) := by decide +kernel
theorem dX10_fence_66 : decode cX10_fence 66 = .ok (.iaload, 1) := by decide +kernel
theorem dX10_fence_67 : decode cX10_fence 67 = .ok (.ireturn, 1) := by decide +kernel
theorem dX10_fence_68 : decode cX10_fence 68 = .ok (.aload_n 0, 1) := by decide +kernel
theorem dX10_fence_69 : decode cX10_fence 69 = .ok (.getfield 50, 3) := by decide +kernel
theorem dX10_fence_72 : decode cX10_fence 72 = .ok (.bipush 14, 2) := by decide +kernel
theorem dX10_fence_74 : decode cX10_fence 74 = .ok (.iaload, 1) := by decide +kernel
theorem dX10_fence_75 : decode cX10_fence 75 = .ok (.iload_n 1, 1) := by decide +kernel
theorem dX10_fence_76 : decode cX10_fence 76 = .ok (.invokestatic 137, 3) := by decide +kernel
theorem dX10_fence_79 : decode cX10_fence 79 = .ok (.ifCond .eq 7, 3) := by decide +kernel
theorem dX10_fence_82 : decode cX10_fence 82 = .ok (.iconst 1, 1) := by decide +kernel
theorem dX10_fence_83 : decode cX10_fence 83 = .ok (.goto 4, 3) := by decide +kernel
theorem dX10_fence_86 : decode cX10_fence 86 = .ok (.iconst 0, 1) := by decide +kernel
theorem dX10_fence_87 : decode cX10_fence 87 = .ok (.ireturn, 1) := by decide +kernel
theorem dX10_fence_88 : decode cX10_fence 88 = .ok (.aload_n 0, 1) := by decide +kernel
theorem dX10_fence_89 : decode cX10_fence 89 = .ok (.getfield 50, 3) := by decide +kernel
theorem dX10_fence_92 : decode cX10_fence 92 = .ok (.bipush 15, 2) := by decide +kernel
theorem dX10_fence_94 : decode cX10_fence 94 = .ok (.iaload, 1) := by decide +kernel
theorem dX10_fence_95 : decode cX10_fence 95 = .ok (.iload_n 1, 1) := by decide +kernel
theorem dX10_fence_96 : decode cX10_fence 96 = .ok (.invokestatic 137, 3) := by decide +kernel
theorem dX10_fence_99 : decode cX10_fence 99 = .ok (.ifCond .eq 7, 3) := by decide +kernel
theorem dX10_fence_102 : decode cX10_fence 102 = .ok (.iconst 1, 1) := by decide +kernel
theorem dX10_fence_103 : decode cX10_fence 103 = .ok (.goto 4, 3) := by decide +kernel
theorem dX10_fence_106 : decode cX10_fence 106 = .ok (.iconst 0, 1) := by decide +kernel
theorem dX10_fence_107 : decode cX10_fence 107 = .ok (.ireturn, 1) := by decide +kernel
theorem dX10_fence_108 : decode cX10_fence 108 = .ok (.iconst (-1), 1) := by decide +kernel
theorem dX10_fence_109 : decode cX10_fence 109 = .ok (.ireturn, 1) := by decide +kernel
theorem dX10_kind_0 : decode cX10_kind 0 = .ok (.aload_n 0, 1) := by decide +kernel
theorem dX10_kind_1 : decode cX10_kind 1 = .ok (.iload_n 1, 1) := by decide +kernel
theorem dX10_kind_2 : decode cX10_kind 2 = .ok (.invokevirtual 145, 3) := by decide +kernel
theorem dX10_kind_5 : decode cX10_kind 5 = .ok (.ifCond .eq 12, 3) := by decide +kernel
theorem dX10_kind_8 : decode cX10_kind 8 = .ok (.iload_n 2, 1) := by decide +kernel
theorem dX10_kind_9 : decode cX10_kind 9 = .ok (.iconst 0, 1) := by decide +kernel
theorem dX10_kind_10 : decode cX10_kind 10 = .ok (.iconst 1, 1) := by decide +kernel
theorem dX10_kind_11 : decode cX10_kind 11 = .ok (.invokestatic 81, 3) := by decide +kernel
theorem dX10_kind_14 : decode cX10_kind 14 = .ok (.ifCond .ne 6, 3) := by decide +kernel
theorem dX10_kind_17 : decode cX10_kind 17 = .ok (.ldc 148, 2) := by decide +kernel
theorem dX10_kind_19 : decode cX10_kind 19 = .ok (.ireturn, 1) := by decide +kernel
theorem dX10_kind_20 : decode cX10_kind 20 = .ok (.iload_n 2, 1) := by decide +kernel
theorem dX10_kind_21 : decode cX10_kind 21 = .ok (.ifCond .ne 12, 3) := by decide +kernel
theorem dX10_kind_24 : decode cX10_kind 24 = .ok (.aload_n 0, 1) := by decide +kernel
theorem dX10_kind_25 : decode cX10_kind 25 = .ok (.getfield 32, 3) := by decide +kernel
theorem dX10_kind_28 : decode cX10_kind 28 = .ok (.iload_n 1, 1) := by decide +kernel
theorem dX10_kind_29 : decode cX10_kind 29 = .ok (.iaload, 1) := by decide +kernel
theorem dX10_kind_30 : decode cX10_kind 30 = .ok (.goto 9, 3) := by decide +kernel
theorem dX10_kind_33 : decode cX10_kind 33 = .ok (.aload_n 0, 1) := by decide +kernel
theorem dX10_kind_34 : decode cX10_kind 34 = .ok (.getfield 35, 3) := by decide +kernel
theorem dX10_kind_37 : decode cX10_kind 37 = .ok (.iload_n 1, 1) := by decide +kernel
theorem dX10_kind_38 : decode cX10_kind 38 = .ok (.iaload, 1) := by decide +kernel
theorem dX10_kind_39 : decode cX10_kind 39 = .ok (.ireturn, 1) := by decide +kernel
theorem dX10_beast_0 : decode cX10_beast 0 = .ok (.aload_n 0, 1) := by decide +kernel
theorem dX10_beast_1 : decode cX10_beast 1 = .ok (.iload_n 1, 1) := by decide +kernel
theorem dX10_beast_2 : decode cX10_beast 2 = .ok (.invokevirtual 149, 3) := by decide +kernel
theorem dX10_beast_5 : decode cX10_beast 5 = .ok (.ifCond .eq 12, 3) := by decide +kernel
theorem dX10_beast_8 : decode cX10_beast 8 = .ok (.iload_n 2, 1) := by decide +kernel
theorem dX10_beast_9 : decode cX10_beast 9 = .ok (.iconst 0, 1) := by decide +kernel
theorem dX10_beast_10 : decode cX10_beast 10 = .ok (.iconst 1, 1) := by decide +kernel
theorem dX10_beast_11 : decode cX10_beast 11 = .ok (.invokestatic 81, 3) := by decide +kernel
theorem dX10_beast_14 : decode cX10_beast 14 = .ok (.ifCond .ne 5, 3) := by decide +kernel
theorem dX10_beast_17 : decode cX10_beast 17 = .ok (.iconst (-1), 1) := by decide +kernel
theorem dX10_beast_18 : decode cX10_beast 18 = .ok (.ireturn, 1) := by decide +kernel
theorem dX10_beast_19 : decode cX10_beast 19 = .ok (.iload_n 2, 1) := by decide +kernel
theorem dX10_beast_20 : decode cX10_beast 20 = .ok (.ifCond .ne 12, 3) := by decide +kernel
theorem dX10_beast_23 : decode cX10_beast 23 = .ok (.aload_n 0, 1) := by decide +kernel
theorem dX10_beast_24 : decode cX10_beast 24 = .ok (.getfield 41, 3) := by decide +kernel
theorem dX10_beast_27 : decode cX10_beast 27 = .ok (.iload_n 1, 1) := by decide +kernel
theorem dX10_beast_28 : decode cX10_beast 28 = .ok (.iaload, 1) := by decide +kernel
theorem dX10_beast_29 : decode cX10_beast 29 = .ok (.goto 11, 3) := by decide +kernel
theorem dX10_beast_32 : decode cX10_beast 32 = .ok (.aload_n 0, 1) := by decide +kernel
theorem dX10_beast_33 : decode cX10_beast 33 = .ok (.getfield 50, 3) := by decide +kernel
theorem dX10_beast_36 : decode cX10_beast 36 = .ok (.iconst 0, 1) := by decide +kernel
theorem dX10_beast_37 : decode cX10_beast 37 = .ok (.iload_n 1, 1) := by decide +kernel
theorem dX10_beast_38 : decode cX10_beast 38 = .ok (.iadd, 1) := by decide +kernel
theorem dX10_beast_39 : decode cX10_beast 39 = .ok (.iaload, 1) := by decide +kernel
theorem dX10_beast_40 : decode cX10_beast 40 = .ok (.ireturn, 1) := by decide +kernel
theorem dX10_sound_0 : decode cX10_sound 0 = .ok (.aload_n 0, 1) := by decide +kernel
theorem dX10_sound_1 : decode cX10_sound 1 = .ok (.iload_n 1, 1) := by decide +kernel
theorem dX10_sound_2 : decode cX10_sound 2 = .ok (.invokevirtual 145, 3) := by decide +kernel
theorem dX10_sound_5 : decode cX10_sound 5 = .ok (.ifCond .eq 20, 3) := by decide +kernel
theorem dX10_sound_8 : decode cX10_sound 8 = .ok (.aload_n 0, 1) := by decide +kernel
theorem dX10_sound_9 : decode cX10_sound 9 = .ok (.iload_n 2, 1) := by decide +kernel
theorem dX10_sound_10 : decode cX10_sound 10 = .ok (.invokevirtual 141, 3) := by decide +kernel
theorem dX10_sound_13 : decode cX10_sound 13 = .ok (.ifCond .eq 12, 3) := by decide +kernel
theorem dX10_sound_16 : decode cX10_sound 16 = .ok (.aload_n 0, 1) := by decide +kernel
theorem dX10_sound_17 : decode cX10_sound 17 = .ok (.iload_n 1, 1) := by decide +kernel
theorem dX10_sound_18 : decode cX10_sound 18 = .ok (.iload_n 2, 1) := by decide +kernel
theorem dX10_sound_19 : decode cX10_sound 19 = .ok (.invokevirtual 152, 3) := by decide +kernel
theorem dX10_sound_22 : decode cX10_sound 22 = .ok (.goto 4, 3) := by decide +kernel
theorem dX10_sound_25 : decode cX10_sound 25 = .ok (.iconst (-1), 1) := by decide +kernel
theorem dX10_sound_26 : decode cX10_sound 26 = .ok (.ireturn, 1) := by decide +kernel
theorem dX10_know_0 : decode cX10_know 0 = .ok (.aload_n 0, 1) := by decide +kernel
theorem dX10_know_1 : decode cX10_know 1 = .ok (.getfield 53, 3) := by decide +kernel
theorem dX10_know_4 : decode cX10_know 4 = .ok (.iconst 0, 1) := by decide +kernel
theorem dX10_know_5 : decode cX10_know 5 = .ok (.iaload, 1) := by decide +kernel
theorem dX10_know_6 : decode cX10_know 6 = .ok (.bipush 10, 2) := by decide +kernel
theorem dX10_know_8 : decode cX10_know 8 = .ok (.if_icmp .ne 43, 3) := by decide +kernel
theorem dX10_know_11 : decode cX10_know 11 = .ok (.iconst 0, 1) := by decide +kernel
theorem dX10_know_12 : decode cX10_know 12 = .ok (.istore_n 1, 1) := by decide +kernel
theorem dX10_know_13 : decode cX10_know 13 = .ok (.iload_n 1, 1) := by decide +kernel
theorem dX10_know_14 : decode cX10_know 14 = .ok (.sipush 270, 3) := by decide +kernel
theorem dX10_know_17 : decode cX10_know 17 = .ok (.if_icmp .ge 24, 3) := by decide +kernel
theorem dX10_know_20 : decode cX10_know 20 = .ok (.aload_n 0, 1) := by decide +kernel
theorem dX10_know_21 : decode cX10_know 21 = .ok (.getfield 56, 3) := by decide +kernel
theorem dX10_know_24 : decode cX10_know 24 = .ok (.iload_n 1, 1) := by decide +kernel
theorem dX10_know_25 : decode cX10_know 25 = .ok (.aload_n 0, 1) := by decide +kernel
theorem dX10_know_26 : decode cX10_know 26 = .ok (.getfield 56, 3) := by decide +kernel
theorem dX10_know_29 : decode cX10_know 29 = .ok (.bipush 30, 2) := by decide +kernel
theorem dX10_know_31 : decode cX10_know 31 = .ok (.iload_n 1, 1) := by decide +kernel
theorem dX10_know_32 : decode cX10_know 32 = .ok (.iadd, 1) := by decide +kernel
theorem dX10_know_33 : decode cX10_know 33 = .ok (.iaload, 1) := by decide +kernel
theorem dX10_know_34 : decode cX10_know 34 = .ok (.iastore, 1) := by decide +kernel
theorem dX10_know_35 : decode cX10_know 35 = .ok (.iinc 1 1, 3) := by decide +kernel
theorem dX10_know_38 : decode cX10_know 38 = .ok (.goto (-25), 3) := by decide +kernel
theorem dX10_know_41 : decode cX10_know 41 = .ok (.aload_n 0, 1) := by decide +kernel
theorem dX10_know_42 : decode cX10_know 42 = .ok (.getfield 53, 3) := by decide +kernel
theorem dX10_know_45 : decode cX10_know 45 = .ok (.iconst 0, 1) := by decide +kernel
theorem dX10_know_46 : decode cX10_know 46 = .ok (.dup2, 1) := by decide +kernel
theorem dX10_know_47 : decode cX10_know 47 = .ok (.iaload, 1) := by decide +kernel
theorem dX10_know_48 : decode cX10_know 48 = .ok (.iconst 1, 1) := by decide +kernel
theorem dX10_know_49 : decode cX10_know 49 = .ok (.isub, 1) := by decide +kernel
theorem dX10_know_50 : decode cX10_know 50 = .ok (.iastore, 1) := by decide +kernel
theorem dX10_know_51 : decode cX10_know 51 = .ok (.iconst 0, 1) := by decide +kernel
theorem dX10_know_52 : decode cX10_know 52 = .ok (.istore_n 1, 1) := by decide +kernel
theorem dX10_know_53 : decode cX10_know 53 = .ok (.iload_n 1, 1) := by decide +kernel
theorem dX10_know_54 : decode cX10_know 54 = .ok (.bipush 30, 2) := by decide +kernel
theorem dX10_know_56 : decode cX10_know 56 = .ok (.if_icmp .ge 31, 3) := by decide +kernel
theorem dX10_know_59 : decode cX10_know 59 = .ok (.aload_n 0, 1) := by decide +kernel
theorem dX10_know_60 : decode cX10_know 60 = .ok (.getfield 56, 3) := by decide +kernel
theorem dX10_know_63 : decode cX10_know 63 = .ok (.bipush 30, 2) := by decide +kernel
theorem dX10_know_65 : decode cX10_know 65 = .ok (.aload_n 0, 1) := by decide +kernel
theorem dX10_know_66 : decode cX10_know 66 = .ok (.getfield 53, 3) := by decide +kernel
theorem dX10_know_69 : decode cX10_know 69 = .ok (.iconst 0, 1) := by decide +kernel
theorem dX10_know_70 : decode cX10_know 70 = .ok (.iaload, 1) := by decide +kernel
theorem dX10_know_71 : decode cX10_know 71 = .ok (.imul, 1) := by decide +kernel
theorem dX10_know_72 : decode cX10_know 72 = .ok (.iload_n 1, 1) := by decide +kernel
theorem dX10_know_73 : decode cX10_know 73 = .ok (.iadd, 1) := by decide +kernel
theorem dX10_know_74 : decode cX10_know 74 = .ok (.aload_n 0, 1) := by decide +kernel
theorem dX10_know_75 : decode cX10_know 75 = .ok (.getfield 50, 3) := by decide +kernel
theorem dX10_know_78 : decode cX10_know 78 = .ok (.iload_n 1, 1) := by decide +kernel
theorem dX10_know_79 : decode cX10_know 79 = .ok (.iaload, 1) := by decide +kernel
theorem dX10_know_80 : decode cX10_know 80 = .ok (.iastore, 1) := by decide +kernel
theorem dX10_know_81 : decode cX10_know 81 = .ok (.iinc 1 1, 3) := by decide +kernel
theorem dX10_know_84 : decode cX10_know 84 = .ok (.goto (-31), 3) := by decide +kernel
theorem dX10_know_87 : decode cX10_know 87 = .ok (.aload_n 0, 1) := by decide +kernel
theorem dX10_know_88 : decode cX10_know 88 = .ok (.getfield 53, 3) := by decide +kernel
theorem dX10_know_91 : decode cX10_know 91 = .ok (.iconst 0, 1) := by decide +kernel
theorem dX10_know_92 : decode cX10_know 92 = .ok (.dup2, 1) := by decide +kernel
theorem dX10_know_93 : decode cX10_know 93 = .ok (.iaload, 1) := by decide +kernel
theorem dX10_know_94 : decode cX10_know 94 = .ok (.iconst 1, 1) := by decide +kernel
theorem dX10_know_95 : decode cX10_know 95 = .ok (.iadd, 1) := by decide +kernel
theorem dX10_know_96 : decode cX10_know 96 = .ok (.iastore, 1) := by decide +kernel
theorem dX10_know_97 : decode cX10_know 97 = .ok (.return_, 1) := by decide +kernel
theorem dX10_sing_0 : decode cX10_sing 0 = .ok (.aload_n 0, 1) := by decide +kernel
theorem dX10_sing_1 : decode cX10_sing 1 = .ok (.getfield 50, 3) := by decide +kernel
theorem dX10_sing_4 : decode cX10_sing 4 = .ok (.bipush 17, 2) := by decide +kernel
theorem dX10_sing_6 : decode cX10_sing 6 = .ok (.iaload, 1) := by decide +kernel
theorem dX10_sing_7 : decode cX10_sing 7 = .ok (.bipush 12, 2) := by decide +kernel
theorem dX10_sing_9 : decode cX10_sing 9 = .ok (.if_icmp .ne 50, 3) := by decide +kernel
theorem dX10_sing_12 : decode cX10_sing 12 = .ok (.iconst 0, 1) := by decide +kernel
theorem dX10_sing_13 : decode cX10_sing 13 = .ok (.istore_n 2, 1) := by decide +kernel
theorem dX10_sing_14 : decode cX10_sing 14 = .ok (.iload_n 2, 1) := by decide +kernel
theorem dX10_sing_15 : decode cX10_sing 15 = .ok (.iconst 1, 1) := by decide +kernel
theorem dX10_sing_16 : decode cX10_sing 16 = .ok (.iadd, 1) := by decide +kernel
theorem dX10_sing_17 : decode cX10_sing 17 = .ok (.bipush 12, 2) := by decide +kernel
theorem dX10_sing_19 : decode cX10_sing 19 = .ok (.if_icmp .ge 29, 3) := by decide +kernel
theorem dX10_sing_22 : decode cX10_sing 22 = .ok (.aload_n 0, 1) := by decide +kernel
theorem dX10_sing_23 : decode cX10_sing 23 = .ok (.getfield 50, 3) := by decide +kernel
theorem dX10_sing_26 : decode cX10_sing 26 = .ok (.bipush 18, 2) := by decide +kernel
theorem dX10_sing_28 : decode cX10_sing 28 = .ok (.iload_n 2, 1) := by decide +kernel
theorem dX10_sing_29 : decode cX10_sing 29 = .ok (.iadd, 1) := by decide +kernel
theorem dX10_sing_30 : decode cX10_sing 30 = .ok (.aload_n 0, 1) := by decide +kernel
theorem dX10_sing_31 : decode cX10_sing 31 = .ok (.getfield 50, 3) := by decide +kernel
theorem dX10_sing_34 : decode cX10_sing 34 = .ok (.bipush 18, 2) := by decide +kernel
theorem dX10_sing_36 : decode cX10_sing 36 = .ok (.iload_n 2, 1) := by decide +kernel
theorem dX10_sing_37 : decode cX10_sing 37 = .ok (.iadd, 1) := by decide +kernel
theorem dX10_sing_38 : decode cX10_sing 38 = .ok (.iconst 1, 1) := by decide +kernel
theorem dX10_sing_39 : decode cX10_sing 39 = .ok (.iadd, 1) := by decide +kernel
theorem dX10_sing_40 : decode cX10_sing 40 = .ok (.iaload, 1) := by decide +kernel
theorem dX10_sing_41 : decode cX10_sing 41 = .ok (.iastore, 1) := by decide +kernel
theorem dX10_sing_42 : decode cX10_sing 42 = .ok (.iinc 2 1, 3) := by decide +kernel
theorem dX10_sing_45 : decode cX10_sing 45 = .ok (.goto (-31), 3) := by decide +kernel
theorem dX10_sing_48 : decode cX10_sing 48 = .ok (.aload_n 0, 1) := by decide +kernel
theorem dX10_sing_49 : decode cX10_sing 49 = .ok (.getfield 50, 3) := by decide +kernel
theorem dX10_sing_52 : decode cX10_sing 52 = .ok (.bipush 17, 2) := by decide +kernel
theorem dX10_sing_54 : decode cX10_sing 54 = .ok (.dup2, 1) := by decide +kernel
theorem dX10_sing_55 : decode cX10_sing 55 = .ok (.iaload, 1) := by decide +kernel
theorem dX10_sing_56 : decode cX10_sing 56 = .ok (.iconst 1, 1) := by decide +kernel
theorem dX10_sing_57 : decode cX10_sing 57 = .ok (.isub, 1) := by decide +kernel
theorem dX10_sing_58 : decode cX10_sing 58 = .ok (.iastore, 1) := by decide +kernel
theorem dX10_sing_59 : decode cX10_sing 59 = .ok (.aload_n 0, 1) := by decide +kernel
theorem dX10_sing_60 : decode cX10_sing 60 = .ok (.getfield 50, 3) := by decide +kernel
theorem dX10_sing_63 : decode cX10_sing 63 = .ok (.bipush 18, 2) := by decide +kernel
theorem dX10_sing_65 : decode cX10_sing 65 = .ok (.aload_n 0, 1) := by decide +kernel
theorem dX10_sing_66 : decode cX10_sing 66 = .ok (.getfield 50, 3) := by decide +kernel
theorem dX10_sing_69 : decode cX10_sing 69 = .ok (.bipush 17, 2) := by decide +kernel
theorem dX10_sing_71 : decode cX10_sing 71 = .ok (.iaload, 1) := by decide +kernel
theorem dX10_sing_72 : decode cX10_sing 72 = .ok (.iadd, 1) := by decide +kernel
theorem dX10_sing_73 : decode cX10_sing 73 = .ok (.iload_n 1, 1) := by decide +kernel
theorem dX10_sing_74 : decode cX10_sing 74 = .ok (.iastore, 1) := by decide +kernel
theorem dX10_sing_75 : decode cX10_sing 75 = .ok (.aload_n 0, 1) := by decide +kernel
theorem dX10_sing_76 : decode cX10_sing 76 = .ok (.getfield 50, 3) := by decide +kernel
theorem dX10_sing_79 : decode cX10_sing 79 = .ok (.bipush 17, 2) := by decide +kernel
theorem dX10_sing_81 : decode cX10_sing 81 = .ok (.dup2, 1) := by decide +kernel
theorem dX10_sing_82 : decode cX10_sing 82 = .ok (.iaload, 1) := by decide +kernel
theorem dX10_sing_83 : decode cX10_sing 83 = .ok (.iconst 1, 1) := by decide +kernel
theorem dX10_sing_84 : decode cX10_sing 84 = .ok (.iadd, 1) := by decide +kernel
theorem dX10_sing_85 : decode cX10_sing 85 = .ok (.iastore, 1) := by decide +kernel
theorem dX10_sing_86 : decode cX10_sing 86 = .ok (.return_, 1) := by decide +kernel
theorem dX10_goes_0 : decode cX10_goes 0 = .ok (.aload_n 0, 1) := by decide +kernel
theorem dX10_goes_1 : decode cX10_goes 1 = .ok (.iload_n 1, 1) := by decide +kernel
theorem dX10_goes_2 : decode cX10_goes 2 = .ok (.invokevirtual 149, 3) := by decide +kernel
theorem dX10_goes_5 : decode cX10_goes 5 = .ok (.ifCond .eq 11, 3) := by decide +kernel
theorem dX10_goes_8 : decode cX10_goes 8 = .ok (.aload_n 0, 1) := by decide +kernel
theorem dX10_goes_9 : decode cX10_goes 9 = .ok (.iload_n 2, 1) := by decide +kernel
theorem dX10_goes_10 : decode cX10_goes 10 = .ok (.invokevirtual 141, 3) := by decide +kernel
theorem dX10_goes_13 : decode cX10_goes 13 = .ok (.ifCond .ne 5, 3) := by decide +kernel
theorem dX10_goes_16 : decode cX10_goes 16 = .ok (.iconst (-1), 1) := by decide +kernel
theorem dX10_goes_17 : decode cX10_goes 17 = .ok (.ireturn, 1) := by decide +kernel
theorem dX10_goes_18 : decode cX10_goes 18 = .ok (.aload_n 0, 1) := by decide +kernel
theorem dX10_goes_19 : decode cX10_goes 19 = .ok (.iload_n 2, 1) := by decide +kernel
theorem dX10_goes_20 : decode cX10_goes 20 = .ok (.aload_n 0, 1) := by decide +kernel
theorem dX10_goes_21 : decode cX10_goes 21 = .ok (.getfield 50, 3) := by decide +kernel
theorem dX10_goes_24 : decode cX10_goes 24 = .ok (.iconst 0, 1) := by decide +kernel
theorem dX10_goes_25 : decode cX10_goes 25 = .ok (.iload_n 1, 1) := by decide +kernel
theorem dX10_goes_26 : decode cX10_goes 26 = .ok (.iadd, 1) := by decide +kernel
theorem dX10_goes_27 : decode cX10_goes 27 = .ok (.iaload, 1) := by decide +kernel
theorem dX10_goes_28 : decode cX10_goes 28 = .ok (.invokevirtual 155, 3) := by decide +kernel
theorem dX10_goes_31 : decode cX10_goes 31 = .ok (.ifCond .ne 6, 3) := by decide +kernel
theorem dX10_goes_34 : decode cX10_goes 34 = .ok (.bipush (-2), 2) := by decide +kernel
theorem dX10_goes_36 : decode cX10_goes 36 = .ok (.ireturn, 1) := by decide +kernel
theorem dX10_goes_37 : decode cX10_goes 37 = .ok (.aload_n 0, 1) := by decide +kernel
theorem dX10_goes_38 : decode cX10_goes 38 = .ok (.invokevirtual 158, 3) := by decide +kernel
theorem dX10_goes_41 : decode cX10_goes 41 = .ok (.aload_n 0, 1) := by decide +kernel
theorem dX10_goes_42 : decode cX10_goes 42 = .ok (.aload_n 0, 1) := by decide +kernel
theorem dX10_goes_43 : decode cX10_goes 43 = .ok (.getfield 41, 3) := by decide +kernel
theorem dX10_goes_46 : decode cX10_goes 46 = .ok (.iload_n 1, 1) := by decide +kernel
theorem dX10_goes_47 : decode cX10_goes 47 = .ok (.iaload, 1) := by decide +kernel
theorem dX10_goes_48 : decode cX10_goes 48 = .ok (.iload_n 2, 1) := by decide +kernel
theorem dX10_goes_49 : decode cX10_goes 49 = .ok (.invokevirtual 152, 3) := by decide +kernel
theorem dX10_goes_52 : decode cX10_goes 52 = .ok (.istore_n 3, 1) := by decide +kernel
theorem dX10_goes_53 : decode cX10_goes 53 = .ok (.aload_n 0, 1) := by decide +kernel
theorem dX10_goes_54 : decode cX10_goes 54 = .ok (.getfield 50, 3) := by decide +kernel
theorem dX10_goes_57 : decode cX10_goes 57 = .ok (.iconst 0, 1) := by decide +kernel
theorem dX10_goes_58 : decode cX10_goes 58 = .ok (.iload_n 1, 1) := by decide +kernel
theorem dX10_goes_59 : decode cX10_goes 59 = .ok (.iadd, 1) := by decide +kernel
theorem dX10_goes_60 : decode cX10_goes 60 = .ok (.aload_n 0, 1) := by decide +kernel
theorem dX10_goes_61 : decode cX10_goes 61 = .ok (.iload_n 2, 1) := by decide +kernel
theorem dX10_goes_62 : decode cX10_goes 62 = .ok (.aload_n 0, 1) := by decide +kernel
theorem dX10_goes_63 : decode cX10_goes 63 = .ok (.getfield 50, 3) := by decide +kernel
theorem dX10_goes_66 : decode cX10_goes 66 = .ok (.iconst 0, 1) := by decide +kernel
theorem dX10_goes_67 : decode cX10_goes 67 = .ok (.iload_n 1, 1) := by decide +kernel
theorem dX10_goes_68 : decode cX10_goes 68 = .ok (.iadd, 1) := by decide +kernel
theorem dX10_goes_69 : decode cX10_goes 69 = .ok (.iaload, 1) := by decide +kernel
theorem dX10_goes_70 : decode cX10_goes 70 = .ok (.invokevirtual 161, 3) := by decide +kernel
theorem dX10_goes_73 : decode cX10_goes 73 = .ok (.iastore, 1) := by decide +kernel
theorem dX10_goes_74 : decode cX10_goes 74 = .ok (.iload_n 3, 1) := by decide +kernel
theorem dX10_goes_75 : decode cX10_goes 75 = .ok (.ifCond .le 8, 3) := by decide +kernel
theorem dX10_goes_78 : decode cX10_goes 78 = .ok (.aload_n 0, 1) := by decide +kernel
theorem dX10_goes_79 : decode cX10_goes 79 = .ok (.iload_n 3, 1) := by decide +kernel
theorem dX10_goes_80 : decode cX10_goes 80 = .ok (.invokevirtual 164, 3) := by decide +kernel
theorem dX10_goes_83 : decode cX10_goes 83 = .ok (.iload_n 3, 1) := by decide +kernel
theorem dX10_goes_84 : decode cX10_goes 84 = .ok (.ireturn, 1) := by decide +kernel
theorem dX10_cuts_0 : decode cX10_cuts 0 = .ok (.aload_n 0, 1) := by decide +kernel
theorem dX10_cuts_1 : decode cX10_cuts 1 = .ok (.iload_n 1, 1) := by decide +kernel
theorem dX10_cuts_2 : decode cX10_cuts 2 = .ok (.invokevirtual 141, 3) := by decide +kernel
theorem dX10_cuts_5 : decode cX10_cuts 5 = .ok (.ifCond .eq 12, 3) := by decide +kernel
theorem dX10_cuts_8 : decode cX10_cuts 8 = .ok (.iload_n 2, 1) := by decide +kernel
theorem dX10_cuts_9 : decode cX10_cuts 9 = .ok (.iconst 0, 1) := by decide +kernel
theorem dX10_cuts_10 : decode cX10_cuts 10 = .ok (.iconst 1, 1) := by decide +kernel
theorem dX10_cuts_11 : decode cX10_cuts 11 = .ok (.invokestatic 81, 3) := by decide +kernel
theorem dX10_cuts_14 : decode cX10_cuts 14 = .ok (.ifCond .ne 5, 3) := by decide +kernel
theorem dX10_cuts_17 : decode cX10_cuts 17 = .ok (.iconst (-1), 1) := by decide +kernel
theorem dX10_cuts_18 : decode cX10_cuts 18 = .ok (.ireturn, 1) := by decide +kernel
theorem dX10_cuts_19 : decode cX10_cuts 19 = .ok (.aload_n 0, 1) := by decide +kernel
theorem dX10_cuts_20 : decode cX10_cuts 20 = .ok (.getfield 50, 3) := by decide +kernel
theorem dX10_cuts_23 : decode cX10_cuts 23 = .ok (.bipush 14, 2) := by decide +kernel
theorem dX10_cuts_25 : decode cX10_cuts 25 = .ok (.iaload, 1) := by decide +kernel
theorem dX10_cuts_26 : decode cX10_cuts 26 = .ok (.iload_n 1, 1) := by decide +kernel
theorem dX10_cuts_27 : decode cX10_cuts 27 = .ok (.invokestatic 137, 3) := by decide +kernel
theorem dX10_cuts_30 : decode cX10_cuts 30 = .ok (.iload_n 2, 1) := by decide +kernel
theorem dX10_cuts_31 : decode cX10_cuts 31 = .ok (.iconst 1, 1) := by decide +kernel
theorem dX10_cuts_32 : decode cX10_cuts 32 = .ok (.if_icmp .ne 7, 3) := by decide +kernel
theorem dX10_cuts_35 : decode cX10_cuts 35 = .ok (.iconst 1, 1) := by decide +kernel
theorem dX10_cuts_36 : decode cX10_cuts 36 = .ok (.goto 4, 3) := by decide +kernel
theorem dX10_cuts_39 : decode cX10_cuts 39 = .ok (.iconst 0, 1) := by decide +kernel
theorem dX10_cuts_40 : decode cX10_cuts 40 = .ok (.if_icmp .ne 6, 3) := by decide +kernel
theorem dX10_cuts_43 : decode cX10_cuts 43 = .ok (.bipush (-2), 2) := by decide +kernel
theorem dX10_cuts_45 : decode cX10_cuts 45 = .ok (.ireturn, 1) := by decide +kernel
theorem dX10_cuts_46 : decode cX10_cuts 46 = .ok (.aload_n 0, 1) := by decide +kernel
theorem dX10_cuts_47 : decode cX10_cuts 47 = .ok (.invokevirtual 158, 3) := by decide +kernel
theorem dX10_cuts_50 : decode cX10_cuts 50 = .ok (.aload_n 0, 1) := by decide +kernel
theorem dX10_cuts_51 : decode cX10_cuts 51 = .ok (.getfield 50, 3) := by decide +kernel
theorem dX10_cuts_54 : decode cX10_cuts 54 = .ok (.bipush 14, 2) := by decide +kernel
theorem dX10_cuts_56 : decode cX10_cuts 56 = .ok (.dup2, 1) := by decide +kernel
theorem dX10_cuts_57 : decode cX10_cuts 57 = .ok (.iaload, 1) := by decide +kernel
theorem dX10_cuts_58 : decode cX10_cuts 58 = .ok (.iconst 1, 1) := by decide +kernel
theorem dX10_cuts_59 : decode cX10_cuts 59 = .ok (.iload_n 1, 1) := by decide +kernel
theorem dX10_cuts_60 : decode cX10_cuts 60 = .ok (.ishl, 1) := by decide +kernel
theorem dX10_cuts_61 : decode cX10_cuts 61 = .ok (.ixor, 1) := by decide +kernel
theorem dX10_cuts_62 : decode cX10_cuts 62 = .ok (.iastore, 1) := by decide +kernel
theorem dX10_cuts_63 : decode cX10_cuts 63 = .ok (.aload_n 0, 1) := by decide +kernel
theorem dX10_cuts_64 : decode cX10_cuts 64 = .ok (.getfield 50, 3) := by decide +kernel
theorem dX10_cuts_67 : decode cX10_cuts 67 = .ok (.bipush 14, 2) := by decide +kernel
theorem dX10_cuts_69 : decode cX10_cuts 69 = .ok (.iaload, 1) := by decide +kernel
theorem dX10_cuts_70 : decode cX10_cuts 70 = .ok (.invokestatic 167, 3) := by decide +kernel
theorem dX10_cuts_73 : decode cX10_cuts 73 = .ok (.ireturn, 1) := by decide +kernel
theorem dX10_tunes_0 : decode cX10_tunes 0 = .ok (.aload_n 0, 1) := by decide +kernel
theorem dX10_tunes_1 : decode cX10_tunes 1 = .ok (.iload_n 1, 1) := by decide +kernel
theorem dX10_tunes_2 : decode cX10_tunes 2 = .ok (.invokevirtual 141, 3) := by decide +kernel
theorem dX10_tunes_5 : decode cX10_tunes 5 = .ok (.ifCond .eq 13, 3) := by decide +kernel
theorem dX10_tunes_8 : decode cX10_tunes 8 = .ok (.iload_n 2, 1) := by decide +kernel
theorem dX10_tunes_9 : decode cX10_tunes 9 = .ok (.iconst 1, 1) := by decide +kernel
theorem dX10_tunes_10 : decode cX10_tunes 10 = .ok (.bipush 40, 2) := by decide +kernel
theorem dX10_tunes_12 : decode cX10_tunes 12 = .ok (.invokestatic 81, 3) := by decide +kernel
theorem dX10_tunes_15 : decode cX10_tunes 15 = .ok (.ifCond .ne 5, 3) := by decide +kernel
theorem dX10_tunes_18 : decode cX10_tunes 18 = .ok (.iconst (-1), 1) := by decide +kernel
theorem dX10_tunes_19 : decode cX10_tunes 19 = .ok (.ireturn, 1) := by decide +kernel
theorem dX10_tunes_20 : decode cX10_tunes 20 = .ok (.aload_n 0, 1) := by decide +kernel
theorem dX10_tunes_21 : decode cX10_tunes 21 = .ok (.getfield 50, 3) := by decide +kernel
theorem dX10_tunes_24 : decode cX10_tunes 24 = .ok (.bipush 6, 2) := by decide +kernel
theorem dX10_tunes_26 : decode cX10_tunes 26 = .ok (.iload_n 1, 1) := by decide +kernel
theorem dX10_tunes_27 : decode cX10_tunes 27 = .ok (.iadd, 1) := by decide +kernel
theorem dX10_tunes_28 : decode cX10_tunes 28 = .ok (.iaload, 1) := by decide +kernel
theorem dX10_tunes_29 : decode cX10_tunes 29 = .ok (.istore_n 3, 1) := by decide +kernel
theorem dX10_tunes_30 : decode cX10_tunes 30 = .ok (.iload_n 3, 1) := by decide +kernel
theorem dX10_tunes_31 : decode cX10_tunes 31 = .ok (.ifCond .eq 8, 3) := by decide +kernel
theorem dX10_tunes_34 : decode cX10_tunes 34 = .ok (.iload_n 3, 1) := by decide +kernel
theorem dX10_tunes_35 : decode cX10_tunes 35 = .ok (.iload_n 2, 1) := by decide +kernel
theorem dX10_tunes_36 : decode cX10_tunes 36 = .ok (.if_icmp .ne 6, 3) := by decide +kernel
theorem dX10_tunes_39 : decode cX10_tunes 39 = .ok (.bipush (-2), 2) := by decide +kernel
theorem dX10_tunes_41 : decode cX10_tunes 41 = .ok (.ireturn, 1) := by decide +kernel
theorem dX10_tunes_42 : decode cX10_tunes 42 = .ok (.aload_n 0, 1) := by decide +kernel
theorem dX10_tunes_43 : decode cX10_tunes 43 = .ok (.invokevirtual 158, 3) := by decide +kernel
theorem dX10_tunes_46 : decode cX10_tunes 46 = .ok (.aload_n 0, 1) := by decide +kernel
theorem dX10_tunes_47 : decode cX10_tunes 47 = .ok (.getfield 50, 3) := by decide +kernel
theorem dX10_tunes_50 : decode cX10_tunes 50 = .ok (.bipush 6, 2) := by decide +kernel
theorem dX10_tunes_52 : decode cX10_tunes 52 = .ok (.iload_n 1, 1) := by decide +kernel
theorem dX10_tunes_53 : decode cX10_tunes 53 = .ok (.iadd, 1) := by decide +kernel
theorem dX10_tunes_54 : decode cX10_tunes 54 = .ok (.iload_n 2, 1) := by decide +kernel
theorem dX10_tunes_55 : decode cX10_tunes 55 = .ok (.iastore, 1) := by decide +kernel
theorem dX10_tunes_56 : decode cX10_tunes 56 = .ok (.iload_n 3, 1) := by decide +kernel
theorem dX10_tunes_57 : decode cX10_tunes 57 = .ok (.ireturn, 1) := by decide +kernel
theorem dX10_lays_0 : decode cX10_lays 0 = .ok (.iload_n 1, 1) := by decide +kernel
theorem dX10_lays_1 : decode cX10_lays 1 = .ok (.iconst 0, 1) := by decide +kernel
theorem dX10_lays_2 : decode cX10_lays 2 = .ok (.iconst 1, 1) := by decide +kernel
theorem dX10_lays_3 : decode cX10_lays 3 = .ok (.invokestatic 81, 3) := by decide +kernel
theorem dX10_lays_6 : decode cX10_lays 6 = .ok (.ifCond .ne 5, 3) := by decide +kernel
theorem dX10_lays_9 : decode cX10_lays 9 = .ok (.iconst (-1), 1) := by decide +kernel
theorem dX10_lays_10 : decode cX10_lays 10 = .ok (.ireturn, 1) := by decide +kernel
theorem dX10_lays_11 : decode cX10_lays 11 = .ok (.aload_n 0, 1) := by decide +kernel
theorem dX10_lays_12 : decode cX10_lays 12 = .ok (.invokevirtual 158, 3) := by decide +kernel
theorem dX10_lays_15 : decode cX10_lays 15 = .ok (.aload_n 0, 1) := by decide +kernel
theorem dX10_lays_16 : decode cX10_lays 16 = .ok (.getfield 50, 3) := by decide +kernel
theorem dX10_lays_19 : decode cX10_lays 19 = .ok (.bipush 15, 2) := by decide +kernel
theorem dX10_lays_21 : decode cX10_lays 21 = .ok (.iaload, 1) := by decide +kernel
theorem dX10_lays_22 : decode cX10_lays 22 = .ok (.istore_n 2, 1) := by decide +kernel
theorem dX10_lays_23 : decode cX10_lays 23 = .ok (.aload_n 0, 1) := by decide +kernel
theorem dX10_lays_24 : decode cX10_lays 24 = .ok (.getfield 50, 3) := by decide +kernel
theorem dX10_lays_27 : decode cX10_lays 27 = .ok (.bipush 15, 2) := by decide +kernel
theorem dX10_lays_29 : decode cX10_lays 29 = .ok (.iload_n 1, 1) := by decide +kernel
theorem dX10_lays_30 : decode cX10_lays 30 = .ok (.iconst 1, 1) := by decide +kernel
theorem dX10_lays_31 : decode cX10_lays 31 = .ok (.if_icmp .ne 15, 3) := by decide +kernel
theorem dX10_lays_34 : decode cX10_lays 34 = .ok (.aload_n 0, 1) := by decide +kernel
theorem dX10_lays_35 : decode cX10_lays 35 = .ok (.getfield 17, 3) := by decide +kernel
theorem dX10_lays_38 : decode cX10_lays 38 = .ok (.iconst 0, 1) := by decide +kernel
theorem dX10_lays_39 : decode cX10_lays 39 = .ok (.iaload, 1) := by decide +kernel
theorem dX10_lays_40 : decode cX10_lays 40 = .ok (.invokestatic 171, 3) := by decide +kernel
theorem dX10_lays_43 : decode cX10_lays 43 = .ok (.goto 4, 3) := by decide +kernel
theorem dX10_lays_46 : decode cX10_lays 46 = .ok (.iconst 0, 1) := by decide +kernel
theorem dX10_lays_47 : decode cX10_lays 47 = .ok (.iastore, 1) := by decide +kernel
theorem dX10_lays_48 : decode cX10_lays 48 = .ok (.iload_n 2, 1) := by decide +kernel
theorem dX10_lays_49 : decode cX10_lays 49 = .ok (.aload_n 0, 1) := by decide +kernel
theorem dX10_lays_50 : decode cX10_lays 50 = .ok (.getfield 50, 3) := by decide +kernel
theorem dX10_lays_53 : decode cX10_lays 53 = .ok (.bipush 15, 2) := by decide +kernel
theorem dX10_lays_55 : decode cX10_lays 55 = .ok (.iaload, 1) := by decide +kernel
theorem dX10_lays_56 : decode cX10_lays 56 = .ok (.ixor, 1) := by decide +kernel
theorem dX10_lays_57 : decode cX10_lays 57 = .ok (.invokestatic 167, 3) := by decide +kernel
theorem dX10_lays_60 : decode cX10_lays 60 = .ok (.ireturn, 1) := by decide +kernel
theorem dX10_rains_0 : decode cX10_rains 0 = .ok (.iload_n 1, 1) := by decide +kernel
theorem dX10_rains_1 : decode cX10_rains 1 = .ok (.bipush (-9), 2) := by decide +kernel
theorem dX10_rains_3 : decode cX10_rains 3 = .ok (.bipush 9, 2) := by decide +kernel
theorem dX10_rains_5 : decode cX10_rains 5 = .ok (.invokestatic 81, 3) := by decide +kernel
theorem dX10_rains_8 : decode cX10_rains 8 = .ok (.ifCond .eq 7, 3) := by decide +kernel
theorem dX10_rains_11 : decode cX10_rains 11 = .ok (.iload_n 1, 1) := by decide +kernel
theorem dX10_rains_12 : decode cX10_rains 12 = .ok (.ifCond .ne 5, 3) := by decide +kernel
theorem dX10_rains_15 : decode cX10_rains 15 = .ok (.iconst (-1), 1) := by decide +kernel
theorem dX10_rains_16 : decode cX10_rains 16 = .ok (.ireturn, 1) := by decide +kernel
theorem dX10_rains_17 : decode cX10_rains 17 = .ok (.aload_n 0, 1) := by decide +kernel
theorem dX10_rains_18 : decode cX10_rains 18 = .ok (.getfield 50, 3) := by decide +kernel
theorem dX10_rains_21 : decode cX10_rains 21 = .ok (.bipush 16, 2) := by decide +kernel
theorem dX10_rains_23 : decode cX10_rains 23 = .ok (.iaload, 1) := by decide +kernel
theorem dX10_rains_24 : decode cX10_rains 24 = .ok (.iload_n 1, 1) := by decide +kernel
theorem dX10_rains_25 : decode cX10_rains 25 = .ok (.iadd, 1) := by decide +kernel
theorem dX10_rains_26 : decode cX10_rains 26 = .ok (.iconst 0, 1) := by decide +kernel
theorem dX10_rains_27 : decode cX10_rains 27 = .ok (.bipush 9, 2) := by decide +kernel
theorem dX10_rains_29 : decode cX10_rains 29 = .ok (.invokestatic 81, 3) := by decide +kernel
theorem dX10_rains_32 : decode cX10_rains 32 = .ok (.ifCond .ne 6, 3) := by decide +kernel
theorem dX10_rains_35 : decode cX10_rains 35 = .ok (.bipush (-2), 2) := by decide +kernel
theorem dX10_rains_37 : decode cX10_rains 37 = .ok (.ireturn, 1) := by decide +kernel
theorem dX10_rains_38 : decode cX10_rains 38 = .ok (.aload_n 0, 1) := by decide +kernel
theorem dX10_rains_39 : decode cX10_rains 39 = .ok (.invokevirtual 158, 3) := by decide +kernel
theorem dX10_rains_42 : decode cX10_rains 42 = .ok (.aload_n 0, 1) := by decide +kernel
theorem dX10_rains_43 : decode cX10_rains 43 = .ok (.getfield 50, 3) := by decide +kernel
theorem dX10_rains_46 : decode cX10_rains 46 = .ok (.bipush 16, 2) := by decide +kernel
theorem dX10_rains_48 : decode cX10_rains 48 = .ok (.dup2, 1) := by decide +kernel
theorem dX10_rains_49 : decode cX10_rains 49 = .ok (.iaload, 1) := by decide +kernel
theorem dX10_rains_50 : decode cX10_rains 50 = .ok (.iload_n 1, 1) := by decide +kernel
theorem dX10_rains_51 : decode cX10_rains 51 = .ok (.iadd, 1) := by decide +kernel
theorem dX10_rains_52 : decode cX10_rains 52 = .ok (.iastore, 1) := by decide +kernel
theorem dX10_rains_53 : decode cX10_rains 53 = .ok (.aload_n 0, 1) := by decide +kernel
theorem dX10_rains_54 : decode cX10_rains 54 = .ok (.getfield 50, 3) := by decide +kernel
theorem dX10_rains_57 : decode cX10_rains 57 = .ok (.bipush 16, 2) := by decide +kernel
theorem dX10_rains_59 : decode cX10_rains 59 = .ok (.iaload, 1) := by decide +kernel
theorem dX10_rains_60 : decode cX10_rains 60 = .ok (.ireturn, 1) := by decide +kernel
theorem dX10_undo_0 : decode cX10_undo 0 = .ok (.aload_n 0, 1) := by decide +kernel
theorem dX10_undo_1 : decode cX10_undo 1 = .ok (.getfield 53, 3) := by decide +kernel
theorem dX10_undo_4 : decode cX10_undo 4 = .ok (.iconst 0, 1) := by decide +kernel
theorem dX10_undo_5 : decode cX10_undo 5 = .ok (.iaload, 1) := by decide +kernel
theorem dX10_undo_6 : decode cX10_undo 6 = .ok (.ifCond .ne 6, 3) := by decide +kernel
theorem dX10_undo_9 : decode cX10_undo 9 = .ok (.bipush (-2), 2) := by decide +kernel
theorem dX10_undo_11 : decode cX10_undo 11 = .ok (.ireturn, 1) := by decide +kernel
theorem dX10_undo_12 : decode cX10_undo 12 = .ok (.aload_n 0, 1) := by decide +kernel
theorem dX10_undo_13 : decode cX10_undo 13 = .ok (.getfield 53, 3) := by decide +kernel
theorem dX10_undo_16 : decode cX10_undo 16 = .ok (.iconst 0, 1) := by decide +kernel
theorem dX10_undo_17 : decode cX10_undo 17 = .ok (.dup2, 1) := by decide +kernel
theorem dX10_undo_18 : decode cX10_undo 18 = .ok (.iaload, 1) := by decide +kernel
theorem dX10_undo_19 : decode cX10_undo 19 = .ok (.iconst 1, 1) := by decide +kernel
theorem dX10_undo_20 : decode cX10_undo 20 = .ok (.isub, 1) := by decide +kernel
theorem dX10_undo_21 : decode cX10_undo 21 = .ok (.iastore, 1) := by decide +kernel
theorem dX10_undo_22 : decode cX10_undo 22 = .ok (.iconst 0, 1) := by decide +kernel
theorem dX10_undo_23 : decode cX10_undo 23 = .ok (.istore_n 1, 1) := by decide +kernel
theorem dX10_undo_24 : decode cX10_undo 24 = .ok (.iload_n 1, 1) := by decide +kernel
theorem dX10_undo_25 : decode cX10_undo 25 = .ok (.bipush 30, 2) := by decide +kernel
theorem dX10_undo_27 : decode cX10_undo 27 = .ok (.if_icmp .ge 31, 3) := by decide +kernel
theorem dX10_undo_30 : decode cX10_undo 30 = .ok (.aload_n 0, 1) := by decide +kernel
theorem dX10_undo_31 : decode cX10_undo 31 = .ok (.getfield 50, 3) := by decide +kernel
theorem dX10_undo_34 : decode cX10_undo 34 = .ok (.iload_n 1, 1) := by decide +kernel
theorem dX10_undo_35 : decode cX10_undo 35 = .ok (.aload_n 0, 1) := by decide +kernel
theorem dX10_undo_36 : decode cX10_undo 36 = .ok (.getfield 56, 3) := by decide +kernel
theorem dX10_undo_39 : decode cX10_undo 39 = .ok (.bipush 30, 2) := by decide +kernel
theorem dX10_undo_41 : decode cX10_undo 41 = .ok (.aload_n 0, 1) := by decide +kernel
theorem dX10_undo_42 : decode cX10_undo 42 = .ok (.getfield 53, 3) := by decide +kernel
theorem dX10_undo_45 : decode cX10_undo 45 = .ok (.iconst 0, 1) := by decide +kernel
theorem dX10_undo_46 : decode cX10_undo 46 = .ok (.iaload, 1) := by decide +kernel
theorem dX10_undo_47 : decode cX10_undo 47 = .ok (.imul, 1) := by decide +kernel
theorem dX10_undo_48 : decode cX10_undo 48 = .ok (.iload_n 1, 1) := by decide +kernel
theorem dX10_undo_49 : decode cX10_undo 49 = .ok (.iadd, 1) := by decide +kernel
theorem dX10_undo_50 : decode cX10_undo 50 = .ok (.iaload, 1) := by decide +kernel
theorem dX10_undo_51 : decode cX10_undo 51 = .ok (.iastore, 1) := by decide +kernel
theorem dX10_undo_52 : decode cX10_undo 52 = .ok (.iinc 1 1, 3) := by decide +kernel
theorem dX10_undo_55 : decode cX10_undo 55 = .ok (.goto (-31), 3) := by decide +kernel
theorem dX10_undo_58 : decode cX10_undo 58 = .ok (.aload_n 0, 1) := by decide +kernel
theorem dX10_undo_59 : decode cX10_undo 59 = .ok (.getfield 53, 3) := by decide +kernel
theorem dX10_undo_62 : decode cX10_undo 62 = .ok (.iconst 0, 1) := by decide +kernel
theorem dX10_undo_63 : decode cX10_undo 63 = .ok (.iaload, 1) := by decide +kernel
theorem dX10_undo_64 : decode cX10_undo 64 = .ok (.ireturn, 1) := by decide +kernel
theorem dX10_areAlike_0 : decode cX10_areAlike 0 = .ok (.aload_n 0, 1) := by decide +kernel
theorem dX10_areAlike_1 : decode cX10_areAlike 1 = .ok (.iload_n 2, 1) := by decide +kernel
theorem dX10_areAlike_2 : decode cX10_areAlike 2 = .ok (.aload_n 0, 1) := by decide +kernel
theorem dX10_areAlike_3 : decode cX10_areAlike 3 = .ok (.getfield 20, 3) := by decide +kernel
theorem dX10_areAlike_6 : decode cX10_areAlike 6 = .ok (.iload_n 1, 1) := by decide +kernel
theorem dX10_areAlike_7 : decode cX10_areAlike 7 = .ok (.iaload, 1) := by decide +kernel
theorem dX10_areAlike_8 : decode cX10_areAlike 8 = .ok (.invokevirtual 155, 3) := by decide +kernel
theorem dX10_areAlike_11 : decode cX10_areAlike 11 = .ok (.ifCond .ne 17, 3) := by decide +kernel
theorem dX10_areAlike_14 : decode cX10_areAlike 14 = .ok (.aload_n 0, 1) := by decide +kernel
theorem dX10_areAlike_15 : decode cX10_areAlike 15 = .ok (.iload_n 2, 1) := by decide +kernel
theorem dX10_areAlike_16 : decode cX10_areAlike 16 = .ok (.aload_n 0, 1) := by decide +kernel
theorem dX10_areAlike_17 : decode cX10_areAlike 17 = .ok (.getfield 23, 3) := by decide +kernel
theorem dX10_areAlike_20 : decode cX10_areAlike 20 = .ok (.iload_n 1, 1) := by decide +kernel
theorem dX10_areAlike_21 : decode cX10_areAlike 21 = .ok (.iaload, 1) := by decide +kernel
theorem dX10_areAlike_22 : decode cX10_areAlike 22 = .ok (.invokevirtual 155, 3) := by decide +kernel
theorem dX10_areAlike_25 : decode cX10_areAlike 25 = .ok (.ifCond .eq 7, 3) := by decide +kernel
theorem dX10_areAlike_28 : decode cX10_areAlike 28 = .ok (.iconst 1, 1) := by decide +kernel
theorem dX10_areAlike_29 : decode cX10_areAlike 29 = .ok (.goto 4, 3) := by decide +kernel
theorem dX10_areAlike_32 : decode cX10_areAlike 32 = .ok (.iconst 0, 1) := by decide +kernel
theorem dX10_areAlike_33 : decode cX10_areAlike 33 = .ok (.istore_n 3, 1) := by decide +kernel
theorem dX10_areAlike_34 : decode cX10_areAlike 34 = .ok (.iload_n 1, 1) := by decide +kernel
theorem dX10_areAlike_35 : decode cX10_areAlike 35 = .ok (.iload_n 2, 1) := by decide +kernel
theorem dX10_areAlike_36 : decode cX10_areAlike 36 = .ok (.if_icmp .eq 48, 3) := by decide +kernel
theorem dX10_areAlike_39 : decode cX10_areAlike 39 = .ok (.iload_n 3, 1) := by decide +kernel
theorem dX10_areAlike_40 : decode cX10_areAlike 40 = .ok (.ifCond .eq 44, 3) := by decide +kernel
theorem dX10_areAlike_43 : decode cX10_areAlike 43 = .ok (.aload_n 0, 1) := by decide +kernel
theorem dX10_areAlike_44 : decode cX10_areAlike 44 = .ok (.iload_n 1, 1) := by decide +kernel
theorem dX10_areAlike_45 : decode cX10_areAlike 45 = .ok (.invokevirtual 174, 3) := by decide +kernel
theorem dX10_areAlike_48 : decode cX10_areAlike 48 = .ok (.ifCond .eq 36, 3) := by decide +kernel
theorem dX10_areAlike_51 : decode cX10_areAlike 51 = .ok (.aload_n 0, 1) := by decide +kernel
theorem dX10_areAlike_52 : decode cX10_areAlike 52 = .ok (.iload_n 2, 1) := by decide +kernel
theorem dX10_areAlike_53 : decode cX10_areAlike 53 = .ok (.invokevirtual 174, 3) := by decide +kernel
theorem dX10_areAlike_56 : decode cX10_areAlike 56 = .ok (.ifCond .eq 28, 3) := by decide +kernel
theorem dX10_areAlike_59 : decode cX10_areAlike 59 = .ok (.aload_n 0, 1) := by decide +kernel
theorem dX10_areAlike_60 : decode cX10_areAlike 60 = .ok (.getfield 50, 3) := by decide +kernel
theorem dX10_areAlike_63 : decode cX10_areAlike 63 = .ok (.bipush 6, 2) := by decide +kernel
theorem dX10_areAlike_65 : decode cX10_areAlike 65 = .ok (.iload_n 1, 1) := by decide +kernel
theorem dX10_areAlike_66 : decode cX10_areAlike 66 = .ok (.iadd, 1) := by decide +kernel
theorem dX10_areAlike_67 : decode cX10_areAlike 67 = .ok (.iaload, 1) := by decide +kernel
theorem dX10_areAlike_68 : decode cX10_areAlike 68 = .ok (.aload_n 0, 1) := by decide +kernel
theorem dX10_areAlike_69 : decode cX10_areAlike 69 = .ok (.getfield 50, 3) := by decide +kernel
theorem dX10_areAlike_72 : decode cX10_areAlike 72 = .ok (.bipush 6, 2) := by decide +kernel
theorem dX10_areAlike_74 : decode cX10_areAlike 74 = .ok (.iload_n 2, 1) := by decide +kernel
theorem dX10_areAlike_75 : decode cX10_areAlike 75 = .ok (.iadd, 1) := by decide +kernel
theorem dX10_areAlike_76 : decode cX10_areAlike 76 = .ok (.iaload, 1) := by decide +kernel
theorem dX10_areAlike_77 : decode cX10_areAlike 77 = .ok (.if_icmp .ne 7, 3) := by decide +kernel
theorem dX10_areAlike_80 : decode cX10_areAlike 80 = .ok (.iconst 1, 1) := by decide +kernel
theorem dX10_areAlike_81 : decode cX10_areAlike 81 = .ok (.goto 4, 3) := by decide +kernel
theorem dX10_areAlike_84 : decode cX10_areAlike 84 = .ok (.iconst 0, 1) := by decide +kernel
theorem dX10_areAlike_85 : decode cX10_areAlike 85 = .ok (.ireturn, 1) := by decide +kernel
theorem dX10_alike_0 : decode cX10_alike 0 = .ok (.iconst 0, 1) := by decide +kernel
theorem dX10_alike_1 : decode cX10_alike 1 = .ok (.istore_n 1, 1) := by decide +kernel
theorem dX10_alike_2 : decode cX10_alike 2 = .ok (.iconst 0, 1) := by decide +kernel
theorem dX10_alike_3 : decode cX10_alike 3 = .ok (.istore_n 2, 1) := by decide +kernel
theorem dX10_alike_4 : decode cX10_alike 4 = .ok (.iload_n 2, 1) := by decide +kernel
theorem dX10_alike_5 : decode cX10_alike 5 = .ok (.aload_n 0, 1) := by decide +kernel
theorem dX10_alike_6 : decode cX10_alike 6 = .ok (.getfield 17, 3) := by decide +kernel
theorem dX10_alike_9 : decode cX10_alike 9 = .ok (.iconst 0, 1) := by decide +kernel
theorem dX10_alike_10 : decode cX10_alike 10 = .ok (.iaload, 1) := by decide +kernel
theorem dX10_alike_11 : decode cX10_alike 11 = .ok (.if_icmp .ge 46, 3) := by decide +kernel
theorem dX10_alike_14 : decode cX10_alike 14 = .ok (.iload_n 2, 1) := by decide +kernel
theorem dX10_alike_15 : decode cX10_alike 15 = .ok (.iconst 1, 1) := by decide +kernel
theorem dX10_alike_16 : decode cX10_alike 16 = .ok (.iadd, 1) := by decide +kernel
theorem dX10_alike_17 : decode cX10_alike 17 = .ok (.istore_n 3, 1) := by decide +kernel
theorem dX10_alike_18 : decode cX10_alike 18 = .ok (.iload_n 3, 1) := by decide +kernel
theorem dX10_alike_19 : decode cX10_alike 19 = .ok (.aload_n 0, 1) := by decide +kernel
theorem dX10_alike_20 : decode cX10_alike 20 = .ok (.getfield 17, 3) := by decide +kernel
theorem dX10_alike_23 : decode cX10_alike 23 = .ok (.iconst 0, 1) := by decide +kernel
theorem dX10_alike_24 : decode cX10_alike 24 = .ok (.iaload, 1) := by decide +kernel
theorem dX10_alike_25 : decode cX10_alike 25 = .ok (.if_icmp .ge 26, 3) := by decide +kernel
theorem dX10_alike_28 : decode cX10_alike 28 = .ok (.iload_n 1, 1) := by decide +kernel
theorem dX10_alike_29 : decode cX10_alike 29 = .ok (.aload_n 0, 1) := by decide +kernel
theorem dX10_alike_30 : decode cX10_alike 30 = .ok (.iload_n 2, 1) := by decide +kernel
theorem dX10_alike_31 : decode cX10_alike 31 = .ok (.iload_n 3, 1) := by decide +kernel
theorem dX10_alike_32 : decode cX10_alike 32 = .ok (.invokevirtual 177, 3) := by decide +kernel
theorem dX10_alike_35 : decode cX10_alike 35 = .ok (.ifCond .eq 7, 3) := by decide +kernel
theorem dX10_alike_38 : decode cX10_alike 38 = .ok (.iconst 1, 1) := by decide +kernel
theorem dX10_alike_39 : decode cX10_alike 39 = .ok (.goto 4, 3) := by decide +kernel
theorem dX10_alike_42 : decode cX10_alike 42 = .ok (.iconst 0, 1) := by decide +kernel
theorem dX10_alike_43 : decode cX10_alike 43 = .ok (.iadd, 1) := by decide +kernel
theorem dX10_alike_44 : decode cX10_alike 44 = .ok (.istore_n 1, 1) := by decide +kernel
theorem dX10_alike_45 : decode cX10_alike 45 = .ok (.iinc 3 1, 3) := by decide +kernel
theorem dX10_alike_48 : decode cX10_alike 48 = .ok (.goto (-30), 3) := by decide +kernel
theorem dX10_alike_51 : decode cX10_alike 51 = .ok (.iinc 2 1, 3) := by decide +kernel
theorem dX10_alike_54 : decode cX10_alike 54 = .ok (.goto (-50), 3) := by decide +kernel
theorem dX10_alike_57 : decode cX10_alike 57 = .ok (.iload_n 1, 1) := by decide +kernel
theorem dX10_alike_58 : decode cX10_alike 58 = .ok (.ireturn, 1) := by decide +kernel
theorem dX10_areApart_0 : decode cX10_areApart 0 = .ok (.iconst 1, 1) := by decide +kernel
theorem dX10_areApart_1 : decode cX10_areApart 1 = .ok (.istore_n 2, 1) := by decide +kernel
theorem dX10_areApart_2 : decode cX10_areApart 2 = .ok (.iconst 0, 1) := by decide +kernel
theorem dX10_areApart_3 : decode cX10_areApart 3 = .ok (.istore_n 3, 1) := by decide +kernel
theorem dX10_areApart_4 : decode cX10_areApart 4 = .ok (.iload_n 3, 1) := by decide +kernel
theorem dX10_areApart_5 : decode cX10_areApart 5 = .ok (.aload_n 0, 1) := by decide +kernel
theorem dX10_areApart_6 : decode cX10_areApart 6 = .ok (.getfield 17, 3) := by decide +kernel
theorem dX10_areApart_9 : decode cX10_areApart 9 = .ok (.iconst 0, 1) := by decide +kernel
theorem dX10_areApart_10 : decode cX10_areApart 10 = .ok (.iaload, 1) := by decide +kernel
theorem dX10_areApart_11 : decode cX10_areApart 11 = .ok (.if_icmp .ge 68, 3) := by decide +kernel
theorem dX10_areApart_14 : decode cX10_areApart 14 = .ok (.iload_n 3, 1) := by decide +kernel
theorem dX10_areApart_15 : decode cX10_areApart 15 = .ok (.iconst 1, 1) := by decide +kernel
theorem dX10_areApart_16 : decode cX10_areApart 16 = .ok (.iadd, 1) := by decide +kernel
theorem dX10_areApart_17 : decode cX10_areApart 17 = .ok (.istore 4, 2) := by decide +kernel
theorem dX10_areApart_19 : decode cX10_areApart 19 = .ok (.iload 4, 2) := by decide +kernel
theorem dX10_areApart_21 : decode cX10_areApart 21 = .ok (.aload_n 0, 1) := by decide +kernel
theorem dX10_areApart_22 : decode cX10_areApart 22 = .ok (.getfield 17, 3) := by decide +kernel
theorem dX10_areApart_25 : decode cX10_areApart 25 = .ok (.iconst 0, 1) := by decide +kernel
theorem dX10_areApart_26 : decode cX10_areApart 26 = .ok (.iaload, 1) := by decide +kernel
theorem dX10_areApart_27 : decode cX10_areApart 27 = .ok (.if_icmp .ge 46, 3) := by decide +kernel
theorem dX10_areApart_30 : decode cX10_areApart 30 = .ok (.iload_n 2, 1) := by decide +kernel
theorem dX10_areApart_31 : decode cX10_areApart 31 = .ok (.ifCond .eq 34, 3) := by decide +kernel
theorem dX10_areApart_34 : decode cX10_areApart 34 = .ok (.iload_n 1, 1) := by decide +kernel
theorem dX10_areApart_35 : decode cX10_areApart 35 = .ok (.iload_n 3, 1) := by decide +kernel
theorem dX10_areApart_36 : decode cX10_areApart 36 = .ok (.invokestatic 137, 3) := by decide +kernel
theorem dX10_areApart_39 : decode cX10_areApart 39 = .ok (.ifCond .ne 22, 3) := by decide +kernel
theorem dX10_areApart_42 : decode cX10_areApart 42 = .ok (.iload_n 1, 1) := by decide +kernel
theorem dX10_areApart_43 : decode cX10_areApart 43 = .ok (.iload 4, 2) := by decide +kernel
theorem dX10_areApart_45 : decode cX10_areApart 45 = .ok (.invokestatic 137, 3) := by decide +kernel
theorem dX10_areApart_48 : decode cX10_areApart 48 = .ok (.ifCond .ne 13, 3) := by decide +kernel
theorem dX10_areApart_51 : decode cX10_areApart 51 = .ok (.aload_n 0, 1) := by decide +kernel
theorem dX10_areApart_52 : decode cX10_areApart 52 = .ok (.iload_n 3, 1) := by decide +kernel
theorem dX10_areApart_53 : decode cX10_areApart 53 = .ok (.iload 4, 2) := by decide +kernel
theorem dX10_areApart_55 : decode cX10_areApart 55 = .ok (.invokevirtual 177, 3) := by decide +kernel
theorem dX10_areApart_58 : decode cX10_areApart 58 = .ok (.ifCond .ne 7, 3) := by decide +kernel
theorem dX10_areApart_61 : decode cX10_areApart 61 = .ok (.iconst 1, 1) := by decide +kernel
theorem dX10_areApart_62 : decode cX10_areApart 62 = .ok (.goto 4, 3) := by decide +kernel
theorem dX10_areApart_65 : decode cX10_areApart 65 = .ok (.iconst 0, 1) := by decide +kernel
theorem dX10_areApart_66 : decode cX10_areApart 66 = .ok (.istore_n 2, 1) := by decide +kernel
theorem dX10_areApart_67 : decode cX10_areApart 67 = .ok (.iinc 4 1, 3) := by decide +kernel
theorem dX10_areApart_70 : decode cX10_areApart 70 = .ok (.goto (-51), 3) := by decide +kernel
theorem dX10_areApart_73 : decode cX10_areApart 73 = .ok (.iinc 3 1, 3) := by decide +kernel
theorem dX10_areApart_76 : decode cX10_areApart 76 = .ok (.goto (-72), 3) := by decide +kernel
theorem dX10_areApart_79 : decode cX10_areApart 79 = .ok (.iload_n 2, 1) := by decide +kernel
theorem dX10_areApart_80 : decode cX10_areApart 80 = .ok (.ireturn, 1) := by decide +kernel
theorem dX10_areHeard_0 : decode cX10_areHeard 0 = .ok (.iconst 1, 1) := by decide +kernel
theorem dX10_areHeard_1 : decode cX10_areHeard 1 = .ok (.istore_n 2, 1) := by decide +kernel
theorem dX10_areHeard_2 : decode cX10_areHeard 2 = .ok (.iconst 0, 1) := by decide +kernel
theorem dX10_areHeard_3 : decode cX10_areHeard 3 = .ok (.istore_n 3, 1) := by decide +kernel
theorem dX10_areHeard_4 : decode cX10_areHeard 4 = .ok (.iload_n 3, 1) := by decide +kernel
theorem dX10_areHeard_5 : decode cX10_areHeard 5 = .ok (.aload_n 0, 1) := by decide +kernel
theorem dX10_areHeard_6 : decode cX10_areHeard 6 = .ok (.getfield 17, 3) := by decide +kernel
theorem dX10_areHeard_9 : decode cX10_areHeard 9 = .ok (.iconst 0, 1) := by decide +kernel
theorem dX10_areHeard_10 : decode cX10_areHeard 10 = .ok (.iaload, 1) := by decide +kernel
theorem dX10_areHeard_11 : decode cX10_areHeard 11 = .ok (.if_icmp .ge 53, 3) := by decide +kernel
theorem dX10_areHeard_14 : decode cX10_areHeard 14 = .ok (.iload_n 2, 1) := by decide +kernel
theorem dX10_areHeard_15 : decode cX10_areHeard 15 = .ok (.ifCond .eq 41, 3) := by decide +kernel
theorem dX10_areHeard_18 : decode cX10_areHeard 18 = .ok (.aload_n 0, 1) := by decide +kernel
theorem dX10_areHeard_19 : decode cX10_areHeard 19 = .ok (.iload_n 3, 1) := by decide +kernel
theorem dX10_areHeard_20 : decode cX10_areHeard 20 = .ok (.invokevirtual 174, 3) := by decide +kernel
theorem dX10_areHeard_23 : decode cX10_areHeard 23 = .ok (.ifCond .eq 29, 3) := by decide +kernel
theorem dX10_areHeard_26 : decode cX10_areHeard 26 = .ok (.iload_n 1, 1) := by decide +kernel
theorem dX10_areHeard_27 : decode cX10_areHeard 27 = .ok (.aload_n 0, 1) := by decide +kernel
theorem dX10_areHeard_28 : decode cX10_areHeard 28 = .ok (.getfield 20, 3) := by decide +kernel
theorem dX10_areHeard_31 : decode cX10_areHeard 31 = .ok (.iload_n 3, 1) := by decide +kernel
theorem dX10_areHeard_32 : decode cX10_areHeard 32 = .ok (.iaload, 1) := by decide +kernel
theorem dX10_areHeard_33 : decode cX10_areHeard 33 = .ok (.invokestatic 137, 3) := by decide +kernel
theorem dX10_areHeard_36 : decode cX10_areHeard 36 = .ok (.ifCond .ne 16, 3) := by decide +kernel
theorem dX10_areHeard_39 : decode cX10_areHeard 39 = .ok (.iload_n 1, 1) := by decide +kernel
theorem dX10_areHeard_40 : decode cX10_areHeard 40 = .ok (.aload_n 0, 1) := by decide +kernel
theorem dX10_areHeard_41 : decode cX10_areHeard 41 = .ok (.getfield 23, 3) := by decide +kernel
theorem dX10_areHeard_44 : decode cX10_areHeard 44 = .ok (.iload_n 3, 1) := by decide +kernel
theorem dX10_areHeard_45 : decode cX10_areHeard 45 = .ok (.iaload, 1) := by decide +kernel
theorem dX10_areHeard_46 : decode cX10_areHeard 46 = .ok (.invokestatic 137, 3) := by decide +kernel
theorem dX10_areHeard_49 : decode cX10_areHeard 49 = .ok (.ifCond .eq 7, 3) := by decide +kernel
theorem dX10_areHeard_52 : decode cX10_areHeard 52 = .ok (.iconst 1, 1) := by decide +kernel
theorem dX10_areHeard_53 : decode cX10_areHeard 53 = .ok (.goto 4, 3) := by decide +kernel
theorem dX10_areHeard_56 : decode cX10_areHeard 56 = .ok (.iconst 0, 1) := by decide +kernel
theorem dX10_areHeard_57 : decode cX10_areHeard 57 = .ok (.istore_n 2, 1) := by decide +kernel
theorem dX10_areHeard_58 : decode cX10_areHeard 58 = .ok (.iinc 3 1, 3) := by decide +kernel
theorem dX10_areHeard_61 : decode cX10_areHeard 61 = .ok (.goto (-57), 3) := by decide +kernel
theorem dX10_areHeard_64 : decode cX10_areHeard 64 = .ok (.iload_n 2, 1) := by decide +kernel
theorem dX10_areHeard_65 : decode cX10_areHeard 65 = .ok (.ireturn, 1) := by decide +kernel
theorem dX10_fewest_0 : decode cX10_fewest 0 = .ok (.iload_n 1, 1) := by decide +kernel
theorem dX10_fewest_1 : decode cX10_fewest 1 = .ok (.ifCond .ne 12, 3) := by decide +kernel
theorem dX10_fewest_4 : decode cX10_fewest 4 = .ok (.aload_n 0, 1) := by decide +kernel
theorem dX10_fewest_5 : decode cX10_fewest 5 = .ok (.getfield 17, 3) := by decide +kernel
theorem dX10_fewest_8 : decode cX10_fewest 8 = .ok (.iconst 0, 1) := by decide +kernel
theorem dX10_fewest_9 : decode cX10_fewest 9 = .ok (.iaload, 1) := by decide +kernel
theorem dX10_fewest_10 : decode cX10_fewest 10 = .ok (.goto 9, 3) := by decide +kernel
theorem dX10_fewest_13 : decode cX10_fewest 13 = .ok (.aload_n 0, 1) := by decide +kernel
theorem dX10_fewest_14 : decode cX10_fewest 14 = .ok (.getfield 13, 3) := by decide +kernel
theorem dX10_fewest_17 : decode cX10_fewest 17 = .ok (.iconst 0, 1) := by decide +kernel
theorem dX10_fewest_18 : decode cX10_fewest 18 = .ok (.iaload, 1) := by decide +kernel
theorem dX10_fewest_19 : decode cX10_fewest 19 = .ok (.invokestatic 171, 3) := by decide +kernel
theorem dX10_fewest_22 : decode cX10_fewest 22 = .ok (.istore_n 2, 1) := by decide +kernel
theorem dX10_fewest_23 : decode cX10_fewest 23 = .ok (.iload_n 2, 1) := by decide +kernel
theorem dX10_fewest_24 : decode cX10_fewest 24 = .ok (.istore_n 3, 1) := by decide +kernel
theorem dX10_fewest_25 : decode cX10_fewest 25 = .ok (.iload_n 2, 1) := by decide +kernel
theorem dX10_fewest_26 : decode cX10_fewest 26 = .ok (.istore 4, 2) := by decide +kernel
theorem dX10_fewest_28 : decode cX10_fewest 28 = .ok (.iload 4, 2) := by decide +kernel
theorem dX10_fewest_30 : decode cX10_fewest 30 = .ok (.ifCond .lt 65, 3) := by decide +kernel
theorem dX10_fewest_33 : decode cX10_fewest 33 = .ok (.iload 4, 2) := by decide +kernel
theorem dX10_fewest_35 : decode cX10_fewest 35 = .ok (.invokestatic 167, 3) := by decide +kernel
theorem dX10_fewest_38 : decode cX10_fewest 38 = .ok (.iload_n 3, 1) := by decide +kernel
theorem dX10_fewest_39 : decode cX10_fewest 39 = .ok (.invokestatic 167, 3) := by decide +kernel
theorem dX10_fewest_42 : decode cX10_fewest 42 = .ok (.if_icmp .gt 7, 3) := by decide +kernel
theorem dX10_fewest_45 : decode cX10_fewest 45 = .ok (.iconst 1, 1) := by decide +kernel
theorem dX10_fewest_46 : decode cX10_fewest 46 = .ok (.goto 4, 3) := by decide +kernel
theorem dX10_fewest_49 : decode cX10_fewest 49 = .ok (.iconst 0, 1) := by decide +kernel
theorem dX10_fewest_50 : decode cX10_fewest 50 = .ok (.istore 5, 2) := by decide +kernel
theorem dX10_fewest_52 : decode cX10_fewest 52 = .ok (.iload 5, 2) := by decide +kernel
theorem dX10_fewest_54 : decode cX10_fewest 54 = .ok (.ifCond .eq 33, 3) := by decide +kernel
theorem dX10_fewest_57 : decode cX10_fewest 57 = .ok (.iload_n 1, 1) := by decide +kernel
theorem dX10_fewest_58 : decode cX10_fewest 58 = .ok (.ifCond .ne 15, 3) := by decide +kernel
theorem dX10_fewest_61 : decode cX10_fewest 61 = .ok (.aload_n 0, 1) := by decide +kernel
theorem dX10_fewest_62 : decode cX10_fewest 62 = .ok (.iload 4, 2) := by decide +kernel
theorem dX10_fewest_64 : decode cX10_fewest 64 = .ok (.invokevirtual 180, 3) := by decide +kernel
theorem dX10_fewest_67 : decode cX10_fewest 67 = .ok (.ifCond .eq 20, 3) := by decide +kernel
theorem dX10_fewest_70 : decode cX10_fewest 70 = .ok (.goto 12, 3) := by decide +kernel
theorem dX10_fewest_73 : decode cX10_fewest 73 = .ok (.aload_n 0, 1) := by decide +kernel
theorem dX10_fewest_74 : decode cX10_fewest 74 = .ok (.iload 4, 2) := by decide +kernel
theorem dX10_fewest_76 : decode cX10_fewest 76 = .ok (.invokevirtual 183, 3) := by decide +kernel
theorem dX10_fewest_79 : decode cX10_fewest 79 = .ok (.ifCond .eq 8, 3) := by decide +kernel
theorem dX10_fewest_82 : decode cX10_fewest 82 = .ok (.iload 4, 2) := by decide +kernel
theorem dX10_fewest_84 : decode cX10_fewest 84 = .ok (.goto 4, 3) := by decide +kernel
theorem dX10_fewest_87 : decode cX10_fewest 87 = .ok (.iload_n 3, 1) := by decide +kernel
theorem dX10_fewest_88 : decode cX10_fewest 88 = .ok (.istore_n 3, 1) := by decide +kernel
theorem dX10_fewest_89 : decode cX10_fewest 89 = .ok (.iinc 4 (-1), 3) := by decide +kernel
theorem dX10_fewest_92 : decode cX10_fewest 92 = .ok (.goto (-64), 3) := by decide +kernel
theorem dX10_fewest_95 : decode cX10_fewest 95 = .ok (.iload_n 3, 1) := by decide +kernel
theorem dX10_fewest_96 : decode cX10_fewest 96 = .ok (.ireturn, 1) := by decide +kernel
theorem dX10_now_0 : decode cX10_now 0 = .ok (.iload_n 1, 1) := by decide +kernel
theorem dX10_now_1 : decode cX10_now 1 = .ok (.tableswitch 92 0 6 #[43, 51, 59, 67, 75, 80, 86], 43) := by decide +kernel
theorem dX10_now_44 : decode cX10_now 44 = .ok (.aload_n 0, 1) := by decide +kernel
theorem dX10_now_45 : decode cX10_now 45 = .ok (.getfield 50, 3) := by decide +kernel
theorem dX10_now_48 : decode cX10_now 48 = .ok (.bipush 16, 2) := by decide +kernel
theorem dX10_now_50 : decode cX10_now 50 = .ok (.iaload, 1) := by decide +kernel
theorem dX10_now_51 : decode cX10_now 51 = .ok (.ireturn, 1) := by decide +kernel
theorem dX10_now_52 : decode cX10_now 52 = .ok (.aload_n 0, 1) := by decide +kernel
theorem dX10_now_53 : decode cX10_now 53 = .ok (.getfield 50, 3) := by decide +kernel
theorem dX10_now_56 : decode cX10_now 56 = .ok (.bipush 14, 2) := by decide +kernel
theorem dX10_now_58 : decode cX10_now 58 = .ok (.iaload, 1) := by decide +kernel
theorem dX10_now_59 : decode cX10_now 59 = .ok (.ireturn, 1) := by decide +kernel
theorem dX10_now_60 : decode cX10_now 60 = .ok (.aload_n 0, 1) := by decide +kernel
theorem dX10_now_61 : decode cX10_now 61 = .ok (.getfield 50, 3) := by decide +kernel
theorem dX10_now_64 : decode cX10_now 64 = .ok (.bipush 15, 2) := by decide +kernel
theorem dX10_now_66 : decode cX10_now 66 = .ok (.iaload, 1) := by decide +kernel
theorem dX10_now_67 : decode cX10_now 67 = .ok (.ireturn, 1) := by decide +kernel
theorem dX10_now_68 : decode cX10_now 68 = .ok (.aload_n 0, 1) := by decide +kernel
theorem dX10_now_69 : decode cX10_now 69 = .ok (.getfield 50, 3) := by decide +kernel
theorem dX10_now_72 : decode cX10_now 72 = .ok (.bipush 17, 2) := by decide +kernel
theorem dX10_now_74 : decode cX10_now 74 = .ok (.iaload, 1) := by decide +kernel
theorem dX10_now_75 : decode cX10_now 75 = .ok (.ireturn, 1) := by decide +kernel
theorem dX10_now_76 : decode cX10_now 76 = .ok (.aload_n 0, 1) := by decide +kernel
theorem dX10_now_77 : decode cX10_now 77 = .ok (.invokevirtual 186, 3) := by decide +kernel
theorem dX10_now_80 : decode cX10_now 80 = .ok (.ireturn, 1) := by decide +kernel
theorem dX10_now_81 : decode cX10_now 81 = .ok (.aload_n 0, 1) := by decide +kernel
theorem dX10_now_82 : decode cX10_now 82 = .ok (.iconst 0, 1) := by decide +kernel
theorem dX10_now_83 : decode cX10_now 83 = .ok (.invokevirtual 189, 3) := by decide +kernel
theorem dX10_now_86 : decode cX10_now 86 = .ok (.ireturn, 1) := by decide +kernel
theorem dX10_now_87 : decode cX10_now 87 = .ok (.aload_n 0, 1) := by decide +kernel
theorem dX10_now_88 : decode cX10_now 88 = .ok (.iconst 1, 1) := by decide +kernel
theorem dX10_now_89 : decode cX10_now 89 = .ok (.invokevirtual 189, 3) := by decide +kernel
theorem dX10_now_92 : decode cX10_now 92 = .ok (.ireturn, 1) := by decide +kernel
theorem dX10_now_93 : decode cX10_now 93 = .ok (.iconst (-1), 1) := by decide +kernel
theorem dX10_now_94 : decode cX10_now 94 = .ok (.ireturn, 1) := by decide +kernel
theorem dX10_song_0 : decode cX10_song 0 = .ok (.iload_n 1, 1) := by decide +kernel
theorem dX10_song_1 : decode cX10_song 1 = .ok (.iconst 0, 1) := by decide +kernel
theorem dX10_song_2 : decode cX10_song 2 = .ok (.bipush 11, 2) := by decide +kernel
theorem dX10_song_4 : decode cX10_song 4 = .ok (.invokestatic 81, 3) := by decide +kernel
theorem dX10_song_7 : decode cX10_song 7 = .ok (.ifCond .ne 5, 3) := by decide +kernel
theorem dX10_song_10 : decode cX10_song 10 = .ok (.iconst (-1), 1) := by decide +kernel
theorem dX10_song_11 : decode cX10_song 11 = .ok (.ireturn, 1) := by decide +kernel
theorem dX10_song_12 : decode cX10_song 12 = .ok (.iload_n 1, 1) := by decide +kernel
theorem dX10_song_13 : decode cX10_song 13 = .ok (.aload_n 0, 1) := by decide +kernel
theorem dX10_song_14 : decode cX10_song 14 = .ok (.getfield 50, 3) := by decide +kernel
theorem dX10_song_17 : decode cX10_song 17 = .ok (.bipush 17, 2) := by decide +kernel
theorem dX10_song_19 : decode cX10_song 19 = .ok (.iaload, 1) := by decide +kernel
theorem dX10_song_20 : decode cX10_song 20 = .ok (.if_icmp .ge 25, 3) := by decide +kernel
theorem dX10_song_23 : decode cX10_song 23 = .ok (.aload_n 0, 1) := by decide +kernel
theorem dX10_song_24 : decode cX10_song 24 = .ok (.getfield 50, 3) := by decide +kernel
theorem dX10_song_27 : decode cX10_song 27 = .ok (.bipush 18, 2) := by decide +kernel
theorem dX10_song_29 : decode cX10_song 29 = .ok (.aload_n 0, 1) := by decide +kernel
theorem dX10_song_30 : decode cX10_song 30 = .ok (.getfield 50, 3) := by decide +kernel
theorem dX10_song_33 : decode cX10_song 33 = .ok (.bipush 17, 2) := by decide +kernel
theorem dX10_song_35 : decode cX10_song 35 = .ok (.iaload, 1) := by decide +kernel
theorem dX10_song_36 : decode cX10_song 36 = .ok (.iadd, 1) := by decide +kernel
theorem dX10_song_37 : decode cX10_song 37 = .ok (.iconst 1, 1) := by decide +kernel
theorem dX10_song_38 : decode cX10_song 38 = .ok (.isub, 1) := by decide +kernel
theorem dX10_song_39 : decode cX10_song 39 = .ok (.iload_n 1, 1) := by decide +kernel
theorem dX10_song_40 : decode cX10_song 40 = .ok (.isub, 1) := by decide +kernel
theorem dX10_song_41 : decode cX10_song 41 = .ok (.iaload, 1) := by decide +kernel
theorem dX10_song_42 : decode cX10_song 42 = .ok (.goto 5, 3) := by decide +kernel
theorem dX10_song_45 : decode cX10_song 45 = .ok (.bipush (-9), 2) := by decide +kernel
theorem dX10_song_47 : decode cX10_song 47 = .ok (.ireturn, 1) := by decide +kernel
theorem dX10_who_0 : decode cX10_who 0 = .ok (.iload_n 1, 1) := by decide +kernel
theorem dX10_who_1 : decode cX10_who 1 = .ok (.iconst 0, 1) := by decide +kernel
theorem dX10_who_2 : decode cX10_who 2 = .ok (.bipush 43, 2) := by decide +kernel
theorem dX10_who_4 : decode cX10_who 4 = .ok (.invokestatic 81, 3) := by decide +kernel
theorem dX10_who_7 : decode cX10_who 7 = .ok (.ifCond .ne 5, 3) := by decide +kernel
theorem dX10_who_10 : decode cX10_who 10 = .ok (.iconst (-1), 1) := by decide +kernel
theorem dX10_who_11 : decode cX10_who 11 = .ok (.ireturn, 1) := by decide +kernel
theorem dX10_who_12 : decode cX10_who 12 = .ok (.iconst 0, 1) := by decide +kernel
theorem dX10_who_13 : decode cX10_who 13 = .ok (.istore_n 2, 1) := by decide +kernel
theorem dX10_who_14 : decode cX10_who 14 = .ok (.iconst 0, 1) := by decide +kernel
theorem dX10_who_15 : decode cX10_who 15 = .ok (.istore_n 3, 1) := by decide +kernel
theorem dX10_who_16 : decode cX10_who 16 = .ok (.iload_n 3, 1) := by decide +kernel
theorem dX10_who_17 : decode cX10_who 17 = .ok (.aload_n 0, 1) := by decide +kernel
theorem dX10_who_18 : decode cX10_who 18 = .ok (.getfield 38, 3) := by decide +kernel
theorem dX10_who_21 : decode cX10_who 21 = .ok (.iconst 0, 1) := by decide +kernel
theorem dX10_who_22 : decode cX10_who 22 = .ok (.iaload, 1) := by decide +kernel
theorem dX10_who_23 : decode cX10_who 23 = .ok (.if_icmp .ge 84, 3) := by decide +kernel
theorem dX10_who_26 : decode cX10_who 26 = .ok (.iconst 0, 1) := by decide +kernel
theorem dX10_who_27 : decode cX10_who 27 = .ok (.istore 4, 2) := by decide +kernel
theorem dX10_who_29 : decode cX10_who 29 = .ok (.iload 4, 2) := by decide +kernel
theorem dX10_who_31 : decode cX10_who 31 = .ok (.aload_n 0, 1) := by decide +kernel
theorem dX10_who_32 : decode cX10_who 32 = .ok (.getfield 17, 3) := by decide +kernel
theorem dX10_who_35 : decode cX10_who 35 = .ok (.iconst 0, 1) := by decide +kernel
theorem dX10_who_36 : decode cX10_who 36 = .ok (.iaload, 1) := by decide +kernel
theorem dX10_who_37 : decode cX10_who 37 = .ok (.if_icmp .ge 64, 3) := by decide +kernel
theorem dX10_who_40 : decode cX10_who 40 = .ok (.aload_n 0, 1) := by decide +kernel
theorem dX10_who_41 : decode cX10_who 41 = .ok (.iload 4, 2) := by decide +kernel
theorem dX10_who_43 : decode cX10_who 43 = .ok (.aload_n 0, 1) := by decide +kernel
theorem dX10_who_44 : decode cX10_who 44 = .ok (.getfield 50, 3) := by decide +kernel
theorem dX10_who_47 : decode cX10_who 47 = .ok (.iconst 0, 1) := by decide +kernel
theorem dX10_who_48 : decode cX10_who 48 = .ok (.iload_n 3, 1) := by decide +kernel
theorem dX10_who_49 : decode cX10_who 49 = .ok (.iadd, 1) := by decide +kernel
theorem dX10_who_50 : decode cX10_who 50 = .ok (.iaload, 1) := by decide +kernel
theorem dX10_who_51 : decode cX10_who 51 = .ok (.invokevirtual 155, 3) := by decide +kernel
theorem dX10_who_54 : decode cX10_who 54 = .ok (.ifCond .eq 23, 3) := by decide +kernel
theorem dX10_who_57 : decode cX10_who 57 = .ok (.aload_n 0, 1) := by decide +kernel
theorem dX10_who_58 : decode cX10_who 58 = .ok (.aload_n 0, 1) := by decide +kernel
theorem dX10_who_59 : decode cX10_who 59 = .ok (.getfield 41, 3) := by decide +kernel
theorem dX10_who_62 : decode cX10_who 62 = .ok (.iload_n 3, 1) := by decide +kernel
theorem dX10_who_63 : decode cX10_who 63 = .ok (.iaload, 1) := by decide +kernel
theorem dX10_who_64 : decode cX10_who 64 = .ok (.iload 4, 2) := by decide +kernel
theorem dX10_who_66 : decode cX10_who 66 = .ok (.invokevirtual 152, 3) := by decide +kernel
theorem dX10_who_69 : decode cX10_who 69 = .ok (.iload_n 1, 1) := by decide +kernel
theorem dX10_who_70 : decode cX10_who 70 = .ok (.if_icmp .ne 7, 3) := by decide +kernel
theorem dX10_who_73 : decode cX10_who 73 = .ok (.iconst 1, 1) := by decide +kernel
theorem dX10_who_74 : decode cX10_who 74 = .ok (.goto 4, 3) := by decide +kernel
theorem dX10_who_77 : decode cX10_who 77 = .ok (.iconst 0, 1) := by decide +kernel
theorem dX10_who_78 : decode cX10_who 78 = .ok (.istore 5, 2) := by decide +kernel
theorem dX10_who_80 : decode cX10_who 80 = .ok (.iload_n 2, 1) := by decide +kernel
theorem dX10_who_81 : decode cX10_who 81 = .ok (.iload 5, 2) := by decide +kernel
theorem dX10_who_83 : decode cX10_who 83 = .ok (.ifCond .eq 9, 3) := by decide +kernel
theorem dX10_who_86 : decode cX10_who 86 = .ok (.iconst 1, 1) := by decide +kernel
theorem dX10_who_87 : decode cX10_who 87 = .ok (.iload_n 3, 1) := by decide +kernel
theorem dX10_who_88 : decode cX10_who 88 = .ok (.ishl, 1) := by decide +kernel
theorem dX10_who_89 : decode cX10_who 89 = .ok (.goto 4, 3) := by decide +kernel
theorem dX10_who_92 : decode cX10_who 92 = .ok (.iconst 0, 1) := by decide +kernel
theorem dX10_who_93 : decode cX10_who 93 = .ok (.ior, 1) := by decide +kernel
theorem dX10_who_94 : decode cX10_who 94 = .ok (.istore_n 2, 1) := by decide +kernel
theorem dX10_who_95 : decode cX10_who 95 = .ok (.iinc 4 1, 3) := by decide +kernel
theorem dX10_who_98 : decode cX10_who 98 = .ok (.goto (-69), 3) := by decide +kernel
theorem dX10_who_101 : decode cX10_who 101 = .ok (.iinc 3 1, 3) := by decide +kernel
theorem dX10_who_104 : decode cX10_who 104 = .ok (.goto (-88), 3) := by decide +kernel
theorem dX10_who_107 : decode cX10_who 107 = .ok (.iload_n 2, 1) := by decide +kernel
theorem dX10_who_108 : decode cX10_who 108 = .ok (.ireturn, 1) := by decide +kernel
theorem dX10_hears_0 : decode cX10_hears 0 = .ok (.iload_n 1, 1) := by decide +kernel
theorem dX10_hears_1 : decode cX10_hears 1 = .ok (.iconst 1, 1) := by decide +kernel
theorem dX10_hears_2 : decode cX10_hears 2 = .ok (.bipush 43, 2) := by decide +kernel
theorem dX10_hears_4 : decode cX10_hears 4 = .ok (.invokestatic 81, 3) := by decide +kernel
theorem dX10_hears_7 : decode cX10_hears 7 = .ok (.ifCond .ne 5, 3) := by decide +kernel
theorem dX10_hears_10 : decode cX10_hears 10 = .ok (.iconst (-1), 1) := by decide +kernel
theorem dX10_hears_11 : decode cX10_hears 11 = .ok (.ireturn, 1) := by decide +kernel
theorem dX10_hears_12 : decode cX10_hears 12 = .ok (.aload_n 0, 1) := by decide +kernel
theorem dX10_hears_13 : decode cX10_hears 13 = .ok (.getfield 134, 3) := by decide +kernel
theorem dX10_hears_16 : decode cX10_hears 16 = .ok (.bipush 6, 2) := by decide +kernel
theorem dX10_hears_18 : decode cX10_hears 18 = .ok (.if_icmp .ne 6, 3) := by decide +kernel
theorem dX10_hears_21 : decode cX10_hears 21 = .ok (.bipush (-3), 2) := by decide +kernel
theorem dX10_hears_23 : decode cX10_hears 23 = .ok (.ireturn, 1) := by decide +kernel
theorem dX10_hears_24 : decode cX10_hears 24 = .ok (.aload_n 0, 1) := by decide +kernel
theorem dX10_hears_25 : decode cX10_hears 25 = .ok (.getfield 66, 3) := by decide +kernel
theorem dX10_hears_28 : decode cX10_hears 28 = .ok (.aload_n 0, 1) := by decide +kernel
theorem dX10_hears_29 : decode cX10_hears 29 = .ok (.getfield 134, 3) := by decide +kernel
theorem dX10_hears_32 : decode cX10_hears 32 = .ok (.iload_n 1, 1) := by decide +kernel
theorem dX10_hears_33 : decode cX10_hears 33 = .ok (.iastore, 1) := by decide +kernel
theorem dX10_hears_34 : decode cX10_hears 34 = .ok (.aload_n 0, 1) := by decide +kernel
theorem dX10_hears_35 : decode cX10_hears 35 = .ok (.dup, 1) := by decide +kernel
theorem dX10_hears_36 : decode cX10_hears 36 = .ok (.getfield 134, 3) := by decide +kernel
theorem dX10_hears_39 : decode cX10_hears 39 = .ok (.iconst 1, 1) := by decide +kernel
theorem dX10_hears_40 : decode cX10_hears 40 = .ok (.iadd, 1) := by decide +kernel
theorem dX10_hears_41 : decode cX10_hears 41 = .ok (.putfield 134, 3) := by decide +kernel
theorem dX10_hears_44 : decode cX10_hears 44 = .ok (.aload_n 0, 1) := by decide +kernel
theorem dX10_hears_45 : decode cX10_hears 45 = .ok (.getfield 134, 3) := by decide +kernel
theorem dX10_hears_48 : decode cX10_hears 48 = .ok (.ireturn, 1) := by decide +kernel
theorem dX10_forget_0 : decode cX10_forget 0 = .ok (.aload_n 0, 1) := by decide +kernel
theorem dX10_forget_1 : decode cX10_forget 1 = .ok (.getfield 134, 3) := by decide +kernel
theorem dX10_forget_4 : decode cX10_forget 4 = .ok (.istore_n 1, 1) := by decide +kernel
theorem dX10_forget_5 : decode cX10_forget 5 = .ok (.aload_n 0, 1) := by decide +kernel
theorem dX10_forget_6 : decode cX10_forget 6 = .ok (.iconst 0, 1) := by decide +kernel
theorem dX10_forget_7 : decode cX10_forget 7 = .ok (.putfield 134, 3) := by decide +kernel
theorem dX10_forget_10 : decode cX10_forget 10 = .ok (.iload_n 1, 1) := by decide +kernel
theorem dX10_forget_11 : decode cX10_forget 11 = .ok (.ireturn, 1) := by decide +kernel
theorem dX10_ways_0 : decode cX10_ways 0 = .ok (.aload_n 0, 1) := by decide +kernel
theorem dX10_ways_1 : decode cX10_ways 1 = .ok (.iload_n 1, 1) := by decide +kernel
theorem dX10_ways_2 : decode cX10_ways 2 = .ok (.invokevirtual 145, 3) := by decide +kernel
theorem dX10_ways_5 : decode cX10_ways 5 = .ok (.ifCond .eq 11, 3) := by decide +kernel
theorem dX10_ways_8 : decode cX10_ways 8 = .ok (.aload_n 0, 1) := by decide +kernel
theorem dX10_ways_9 : decode cX10_ways 9 = .ok (.iload_n 2, 1) := by decide +kernel
theorem dX10_ways_10 : decode cX10_ways 10 = .ok (.invokevirtual 192, 3) := by decide +kernel
theorem dX10_ways_13 : decode cX10_ways 13 = .ok (.ifCond .ne 5, 3) := by decide +kernel
theorem dX10_ways_16 : decode cX10_ways 16 = .ok (.iconst (-1), 1) := by decide +kernel
theorem dX10_ways_17 : decode cX10_ways 17 = .ok (.ireturn, 1) := by decide +kernel
theorem dX10_ways_18 : decode cX10_ways 18 = .ok (.iconst 0, 1) := by decide +kernel
theorem dX10_ways_19 : decode cX10_ways 19 = .ok (.istore_n 3, 1) := by decide +kernel
theorem dX10_ways_20 : decode cX10_ways 20 = .ok (.iload_n 3, 1) := by decide +kernel
theorem dX10_ways_21 : decode cX10_ways 21 = .ok (.bipush 8, 2) := by decide +kernel
theorem dX10_ways_23 : decode cX10_ways 23 = .ok (.if_icmp .ge 25, 3) := by decide +kernel
theorem dX10_ways_26 : decode cX10_ways 26 = .ok (.aload_n 0, 1) := by decide +kernel
theorem dX10_ways_27 : decode cX10_ways 27 = .ok (.getfield 69, 3) := by decide +kernel
theorem dX10_ways_30 : decode cX10_ways 30 = .ok (.iload_n 3, 1) := by decide +kernel
theorem dX10_ways_31 : decode cX10_ways 31 = .ok (.iload_n 3, 1) := by decide +kernel
theorem dX10_ways_32 : decode cX10_ways 32 = .ok (.iload_n 2, 1) := by decide +kernel
theorem dX10_ways_33 : decode cX10_ways 33 = .ok (.if_icmp .ne 7, 3) := by decide +kernel
theorem dX10_ways_36 : decode cX10_ways 36 = .ok (.iconst 1, 1) := by decide +kernel
theorem dX10_ways_37 : decode cX10_ways 37 = .ok (.goto 4, 3) := by decide +kernel
theorem dX10_ways_40 : decode cX10_ways 40 = .ok (.iconst 0, 1) := by decide +kernel
theorem dX10_ways_41 : decode cX10_ways 41 = .ok (.iastore, 1) := by decide +kernel
theorem dX10_ways_42 : decode cX10_ways 42 = .ok (.iinc 3 1, 3) := by decide +kernel
theorem dX10_ways_45 : decode cX10_ways 45 = .ok (.goto (-25), 3) := by decide +kernel
theorem dX10_ways_48 : decode cX10_ways 48 = .ok (.iconst 0, 1) := by decide +kernel
theorem dX10_ways_49 : decode cX10_ways 49 = .ok (.istore_n 3, 1) := by decide +kernel
theorem dX10_ways_50 : decode cX10_ways 50 = .ok (.iload_n 3, 1) := by decide +kernel
theorem dX10_ways_51 : decode cX10_ways 51 = .ok (.aload_n 0, 1) := by decide +kernel
theorem dX10_ways_52 : decode cX10_ways 52 = .ok (.getfield 134, 3) := by decide +kernel
theorem dX10_ways_55 : decode cX10_ways 55 = .ok (.if_icmp .ge 179, 3) := by decide +kernel
theorem dX10_ways_58 : decode cX10_ways 58 = .ok (.iconst 0, 1) := by decide +kernel
theorem dX10_ways_59 : decode cX10_ways 59 = .ok (.istore 4, 2) := by decide +kernel
theorem dX10_ways_61 : decode cX10_ways 61 = .ok (.iload 4, 2) := by decide +kernel
theorem dX10_ways_63 : decode cX10_ways 63 = .ok (.bipush 8, 2) := by decide +kernel
theorem dX10_ways_65 : decode cX10_ways 65 = .ok (.if_icmp .ge 17, 3) := by decide +kernel
theorem dX10_ways_68 : decode cX10_ways 68 = .ok (.aload_n 0, 1) := by decide +kernel
theorem dX10_ways_69 : decode cX10_ways 69 = .ok (.getfield 72, 3) := by decide +kernel
theorem dX10_ways_72 : decode cX10_ways 72 = .ok (.iload 4, 2) := by decide +kernel
theorem dX10_ways_74 : decode cX10_ways 74 = .ok (.iconst 0, 1) := by decide +kernel
theorem dX10_ways_75 : decode cX10_ways 75 = .ok (.iastore, 1) := by decide +kernel
theorem dX10_ways_76 : decode cX10_ways 76 = .ok (.iinc 4 1, 3) := by decide +kernel
theorem dX10_ways_79 : decode cX10_ways 79 = .ok (.goto (-18), 3) := by decide +kernel
theorem dX10_ways_82 : decode cX10_ways 82 = .ok (.iconst 0, 1) := by decide +kernel
theorem dX10_ways_83 : decode cX10_ways 83 = .ok (.istore 4, 2) := by decide +kernel
theorem dX10_ways_85 : decode cX10_ways 85 = .ok (.iload 4, 2) := by decide +kernel
theorem dX10_ways_87 : decode cX10_ways 87 = .ok (.aload_n 0, 1) := by decide +kernel
theorem dX10_ways_88 : decode cX10_ways 88 = .ok (.getfield 17, 3) := by decide +kernel
theorem dX10_ways_91 : decode cX10_ways 91 = .ok (.iconst 0, 1) := by decide +kernel
theorem dX10_ways_92 : decode cX10_ways 92 = .ok (.iaload, 1) := by decide +kernel
theorem dX10_ways_93 : decode cX10_ways 93 = .ok (.if_icmp .ge 105, 3) := by decide +kernel
theorem dX10_ways_96 : decode cX10_ways 96 = .ok (.aload_n 0, 1) := by decide +kernel
theorem dX10_ways_97 : decode cX10_ways 97 = .ok (.iload_n 1, 1) := by decide +kernel
theorem dX10_ways_98 : decode cX10_ways 98 = .ok (.iload 4, 2) := by decide +kernel
theorem dX10_ways_100 : decode cX10_ways 100 = .ok (.invokevirtual 152, 3) := by decide +kernel
theorem dX10_ways_103 : decode cX10_ways 103 = .ok (.aload_n 0, 1) := by decide +kernel
theorem dX10_ways_104 : decode cX10_ways 104 = .ok (.getfield 66, 3) := by decide +kernel
theorem dX10_ways_107 : decode cX10_ways 107 = .ok (.iload_n 3, 1) := by decide +kernel
theorem dX10_ways_108 : decode cX10_ways 108 = .ok (.iaload, 1) := by decide +kernel
theorem dX10_ways_109 : decode cX10_ways 109 = .ok (.if_icmp .ne 83, 3) := by decide +kernel
theorem dX10_ways_112 : decode cX10_ways 112 = .ok (.aload_n 0, 1) := by decide +kernel
theorem dX10_ways_113 : decode cX10_ways 113 = .ok (.getfield 72, 3) := by decide +kernel
theorem dX10_ways_116 : decode cX10_ways 116 = .ok (.aload_n 0, 1) := by decide +kernel
theorem dX10_ways_117 : decode cX10_ways 117 = .ok (.getfield 23, 3) := by decide +kernel
theorem dX10_ways_120 : decode cX10_ways 120 = .ok (.iload 4, 2) := by decide +kernel
theorem dX10_ways_122 : decode cX10_ways 122 = .ok (.iaload, 1) := by decide +kernel
theorem dX10_ways_123 : decode cX10_ways 123 = .ok (.aload_n 0, 1) := by decide +kernel
theorem dX10_ways_124 : decode cX10_ways 124 = .ok (.getfield 72, 3) := by decide +kernel
theorem dX10_ways_127 : decode cX10_ways 127 = .ok (.aload_n 0, 1) := by decide +kernel
theorem dX10_ways_128 : decode cX10_ways 128 = .ok (.getfield 23, 3) := by decide +kernel
theorem dX10_ways_131 : decode cX10_ways 131 = .ok (.iload 4, 2) := by decide +kernel
theorem dX10_ways_133 : decode cX10_ways 133 = .ok (.iaload, 1) := by decide +kernel
theorem dX10_ways_134 : decode cX10_ways 134 = .ok (.iaload, 1) := by decide +kernel
theorem dX10_ways_135 : decode cX10_ways 135 = .ok (.aload_n 0, 1) := by decide +kernel
theorem dX10_ways_136 : decode cX10_ways 136 = .ok (.getfield 69, 3) := by decide +kernel
theorem dX10_ways_139 : decode cX10_ways 139 = .ok (.aload_n 0, 1) := by decide +kernel
theorem dX10_ways_140 : decode cX10_ways 140 = .ok (.getfield 20, 3) := by decide +kernel
theorem dX10_ways_143 : decode cX10_ways 143 = .ok (.iload 4, 2) := by decide +kernel
theorem dX10_ways_145 : decode cX10_ways 145 = .ok (.iaload, 1) := by decide +kernel
theorem dX10_ways_146 : decode cX10_ways 146 = .ok (.iaload, 1) := by decide +kernel
theorem dX10_ways_147 : decode cX10_ways 147 = .ok (.iadd, 1) := by decide +kernel
theorem dX10_ways_148 : decode cX10_ways 148 = .ok (.ldc 195, 2) := by decide +kernel
theorem dX10_ways_150 : decode cX10_ways 150 = .ok (.irem, 1) := by decide +kernel
theorem dX10_ways_151 : decode cX10_ways 151 = .ok (.iastore, 1) := by decide +kernel
theorem dX10_ways_152 : decode cX10_ways 152 = .ok (.aload_n 0, 1) := by decide +kernel
theorem dX10_ways_153 : decode cX10_ways 153 = .ok (.getfield 72, 3) := by decide +kernel
theorem dX10_ways_156 : decode cX10_ways 156 = .ok (.aload_n 0, 1) := by decide +kernel
theorem dX10_ways_157 : decode cX10_ways 157 = .ok (.getfield 20, 3) := by decide +kernel
theorem dX10_ways_160 : decode cX10_ways 160 = .ok (.iload 4, 2) := by decide +kernel
theorem dX10_ways_162 : decode cX10_ways 162 = .ok (.iaload, 1) := by decide +kernel
theorem dX10_ways_163 : decode cX10_ways 163 = .ok (.aload_n 0, 1) := by decide +kernel
theorem dX10_ways_164 : decode cX10_ways 164 = .ok (.getfield 72, 3) := by decide +kernel
theorem dX10_ways_167 : decode cX10_ways 167 = .ok (.aload_n 0, 1) := by decide +kernel
theorem dX10_ways_168 : decode cX10_ways 168 = .ok (.getfield 20, 3) := by decide +kernel
theorem dX10_ways_171 : decode cX10_ways 171 = .ok (.iload 4, 2) := by decide +kernel
theorem dX10_ways_173 : decode cX10_ways 173 = .ok (.iaload, 1) := by decide +kernel
theorem dX10_ways_174 : decode cX10_ways 174 = .ok (.iaload, 1) := by decide +kernel
theorem dX10_ways_175 : decode cX10_ways 175 = .ok (.aload_n 0, 1) := by decide +kernel
theorem dX10_ways_176 : decode cX10_ways 176 = .ok (.getfield 69, 3) := by decide +kernel
theorem dX10_ways_179 : decode cX10_ways 179 = .ok (.aload_n 0, 1) := by decide +kernel
theorem dX10_ways_180 : decode cX10_ways 180 = .ok (.getfield 23, 3) := by decide +kernel
theorem dX10_ways_183 : decode cX10_ways 183 = .ok (.iload 4, 2) := by decide +kernel
theorem dX10_ways_185 : decode cX10_ways 185 = .ok (.iaload, 1) := by decide +kernel
theorem dX10_ways_186 : decode cX10_ways 186 = .ok (.iaload, 1) := by decide +kernel
theorem dX10_ways_187 : decode cX10_ways 187 = .ok (.iadd, 1) := by decide +kernel
theorem dX10_ways_188 : decode cX10_ways 188 = .ok (.ldc 195, 2) := by decide +kernel
theorem dX10_ways_190 : decode cX10_ways 190 = .ok (.irem, 1) := by decide +kernel
theorem dX10_ways_191 : decode cX10_ways 191 = .ok (.iastore, 1) := by decide +kernel
theorem dX10_ways_192 : decode cX10_ways 192 = .ok (.iinc 4 1, 3) := by decide +kernel
theorem dX10_ways_195 : decode cX10_ways 195 = .ok (.goto (-110), 3) := by decide +kernel
theorem dX10_ways_198 : decode cX10_ways 198 = .ok (.iconst 0, 1) := by decide +kernel
theorem dX10_ways_199 : decode cX10_ways 199 = .ok (.istore 4, 2) := by decide +kernel
theorem dX10_ways_201 : decode cX10_ways 201 = .ok (.iload 4, 2) := by decide +kernel
theorem dX10_ways_203 : decode cX10_ways 203 = .ok (.bipush 8, 2) := by decide +kernel
theorem dX10_ways_205 : decode cX10_ways 205 = .ok (.if_icmp .ge 23, 3) := by decide +kernel
theorem dX10_ways_208 : decode cX10_ways 208 = .ok (.aload_n 0, 1) := by decide +kernel
theorem dX10_ways_209 : decode cX10_ways 209 = .ok (.getfield 69, 3) := by decide +kernel
theorem dX10_ways_212 : decode cX10_ways 212 = .ok (.iload 4, 2) := by decide +kernel
theorem dX10_ways_214 : decode cX10_ways 214 = .ok (.aload_n 0, 1) := by decide +kernel
theorem dX10_ways_215 : decode cX10_ways 215 = .ok (.getfield 72, 3) := by decide +kernel
theorem dX10_ways_218 : decode cX10_ways 218 = .ok (.iload 4, 2) := by decide +kernel
theorem dX10_ways_220 : decode cX10_ways 220 = .ok (.iaload, 1) := by decide +kernel
theorem dX10_ways_221 : decode cX10_ways 221 = .ok (.iastore, 1) := by decide +kernel
theorem dX10_ways_222 : decode cX10_ways 222 = .ok (.iinc 4 1, 3) := by decide +kernel
theorem dX10_ways_225 : decode cX10_ways 225 = .ok (.goto (-24), 3) := by decide +kernel
theorem dX10_ways_228 : decode cX10_ways 228 = .ok (.iinc 3 1, 3) := by decide +kernel
theorem dX10_ways_231 : decode cX10_ways 231 = .ok (.goto (-181), 3) := by decide +kernel
theorem dX10_ways_234 : decode cX10_ways 234 = .ok (.iconst 0, 1) := by decide +kernel
theorem dX10_ways_235 : decode cX10_ways 235 = .ok (.istore_n 3, 1) := by decide +kernel
theorem dX10_ways_236 : decode cX10_ways 236 = .ok (.iconst 0, 1) := by decide +kernel
theorem dX10_ways_237 : decode cX10_ways 237 = .ok (.istore 4, 2) := by decide +kernel
theorem dX10_ways_239 : decode cX10_ways 239 = .ok (.iload 4, 2) := by decide +kernel
theorem dX10_ways_241 : decode cX10_ways 241 = .ok (.bipush 8, 2) := by decide +kernel
theorem dX10_ways_243 : decode cX10_ways 243 = .ok (.if_icmp .ge 22, 3) := by decide +kernel
theorem dX10_ways_246 : decode cX10_ways 246 = .ok (.iload_n 3, 1) := by decide +kernel
theorem dX10_ways_247 : decode cX10_ways 247 = .ok (.aload_n 0, 1) := by decide +kernel
theorem dX10_ways_248 : decode cX10_ways 248 = .ok (.getfield 69, 3) := by decide +kernel
theorem dX10_ways_251 : decode cX10_ways 251 = .ok (.iload 4, 2) := by decide +kernel
theorem dX10_ways_253 : decode cX10_ways 253 = .ok (.iaload, 1) := by decide +kernel
theorem dX10_ways_254 : decode cX10_ways 254 = .ok (.iadd, 1) := by decide +kernel
theorem dX10_ways_255 : decode cX10_ways 255 = .ok (.ldc 195, 2) := by decide +kernel
theorem dX10_ways_257 : decode cX10_ways 257 = .ok (.irem, 1) := by decide +kernel
theorem dX10_ways_258 : decode cX10_ways 258 = .ok (.istore_n 3, 1) := by decide +kernel
theorem dX10_ways_259 : decode cX10_ways 259 = .ok (.iinc 4 1, 3) := by decide +kernel
theorem dX10_ways_262 : decode cX10_ways 262 = .ok (.goto (-23), 3) := by decide +kernel
theorem dX10_ways_265 : decode cX10_ways 265 = .ok (.iload_n 3, 1) := by decide +kernel
theorem dX10_ways_266 : decode cX10_ways 266 = .ok (.ireturn, 1) := by decide +kernel
theorem dX10_endsOf_0 : decode cX10_endsOf 0 = .ok (.aload_n 0, 1) := by decide +kernel
theorem dX10_endsOf_1 : decode cX10_endsOf 1 = .ok (.getfield 13, 3) := by decide +kernel
theorem dX10_endsOf_4 : decode cX10_endsOf 4 = .ok (.iconst 0, 1) := by decide +kernel
theorem dX10_endsOf_5 : decode cX10_endsOf 5 = .ok (.iaload, 1) := by decide +kernel
theorem dX10_endsOf_6 : decode cX10_endsOf 6 = .ok (.invokestatic 171, 3) := by decide +kernel
theorem dX10_endsOf_9 : decode cX10_endsOf 9 = .ok (.istore_n 2, 1) := by decide +kernel
theorem dX10_endsOf_10 : decode cX10_endsOf 10 = .ok (.iconst 0, 1) := by decide +kernel
theorem dX10_endsOf_11 : decode cX10_endsOf 11 = .ok (.istore_n 3, 1) := by decide +kernel
theorem dX10_endsOf_12 : decode cX10_endsOf 12 = .ok (.iload_n 3, 1) := by decide +kernel
theorem dX10_endsOf_13 : decode cX10_endsOf 13 = .ok (.aload_n 0, 1) := by decide +kernel
theorem dX10_endsOf_14 : decode cX10_endsOf 14 = .ok (.getfield 134, 3) := by decide +kernel
theorem dX10_endsOf_17 : decode cX10_endsOf 17 = .ok (.if_icmp .ge 115, 3) := by decide +kernel
theorem dX10_endsOf_20 : decode cX10_endsOf 20 = .ok (.iconst 0, 1) := by decide +kernel
theorem dX10_endsOf_21 : decode cX10_endsOf 21 = .ok (.istore 4, 2) := by decide +kernel
theorem dX10_endsOf_23 : decode cX10_endsOf 23 = .ok (.iconst 0, 1) := by decide +kernel
theorem dX10_endsOf_24 : decode cX10_endsOf 24 = .ok (.istore 5, 2) := by decide +kernel
theorem dX10_endsOf_26 : decode cX10_endsOf 26 = .ok (.iload 5, 2) := by decide +kernel
theorem dX10_endsOf_28 : decode cX10_endsOf 28 = .ok (.aload_n 0, 1) := by decide +kernel
theorem dX10_endsOf_29 : decode cX10_endsOf 29 = .ok (.getfield 17, 3) := by decide +kernel
theorem dX10_endsOf_32 : decode cX10_endsOf 32 = .ok (.iconst 0, 1) := by decide +kernel
theorem dX10_endsOf_33 : decode cX10_endsOf 33 = .ok (.iaload, 1) := by decide +kernel
theorem dX10_endsOf_34 : decode cX10_endsOf 34 = .ok (.if_icmp .ge 89, 3) := by decide +kernel
theorem dX10_endsOf_37 : decode cX10_endsOf 37 = .ok (.aload_n 0, 1) := by decide +kernel
theorem dX10_endsOf_38 : decode cX10_endsOf 38 = .ok (.iload_n 1, 1) := by decide +kernel
theorem dX10_endsOf_39 : decode cX10_endsOf 39 = .ok (.iload 5, 2) := by decide +kernel
theorem dX10_endsOf_41 : decode cX10_endsOf 41 = .ok (.invokevirtual 152, 3) := by decide +kernel
theorem dX10_endsOf_44 : decode cX10_endsOf 44 = .ok (.aload_n 0, 1) := by decide +kernel
theorem dX10_endsOf_45 : decode cX10_endsOf 45 = .ok (.getfield 66, 3) := by decide +kernel
theorem dX10_endsOf_48 : decode cX10_endsOf 48 = .ok (.iload_n 3, 1) := by decide +kernel
theorem dX10_endsOf_49 : decode cX10_endsOf 49 = .ok (.iaload, 1) := by decide +kernel
theorem dX10_endsOf_50 : decode cX10_endsOf 50 = .ok (.if_icmp .ne 67, 3) := by decide +kernel
theorem dX10_endsOf_53 : decode cX10_endsOf 53 = .ok (.iload 4, 2) := by decide +kernel
theorem dX10_endsOf_55 : decode cX10_endsOf 55 = .ok (.iload_n 2, 1) := by decide +kernel
theorem dX10_endsOf_56 : decode cX10_endsOf 56 = .ok (.aload_n 0, 1) := by decide +kernel
theorem dX10_endsOf_57 : decode cX10_endsOf 57 = .ok (.getfield 20, 3) := by decide +kernel
theorem dX10_endsOf_60 : decode cX10_endsOf 60 = .ok (.iload 5, 2) := by decide +kernel
theorem dX10_endsOf_62 : decode cX10_endsOf 62 = .ok (.iaload, 1) := by decide +kernel
theorem dX10_endsOf_63 : decode cX10_endsOf 63 = .ok (.invokestatic 137, 3) := by decide +kernel
theorem dX10_endsOf_66 : decode cX10_endsOf 66 = .ok (.ifCond .eq 15, 3) := by decide +kernel
theorem dX10_endsOf_69 : decode cX10_endsOf 69 = .ok (.iconst 1, 1) := by decide +kernel
theorem dX10_endsOf_70 : decode cX10_endsOf 70 = .ok (.aload_n 0, 1) := by decide +kernel
theorem dX10_endsOf_71 : decode cX10_endsOf 71 = .ok (.getfield 23, 3) := by decide +kernel
theorem dX10_endsOf_74 : decode cX10_endsOf 74 = .ok (.iload 5, 2) := by decide +kernel
theorem dX10_endsOf_76 : decode cX10_endsOf 76 = .ok (.iaload, 1) := by decide +kernel
theorem dX10_endsOf_77 : decode cX10_endsOf 77 = .ok (.ishl, 1) := by decide +kernel
theorem dX10_endsOf_78 : decode cX10_endsOf 78 = .ok (.goto 4, 3) := by decide +kernel
theorem dX10_endsOf_81 : decode cX10_endsOf 81 = .ok (.iconst 0, 1) := by decide +kernel
theorem dX10_endsOf_82 : decode cX10_endsOf 82 = .ok (.ior, 1) := by decide +kernel
theorem dX10_endsOf_83 : decode cX10_endsOf 83 = .ok (.istore 4, 2) := by decide +kernel
theorem dX10_endsOf_85 : decode cX10_endsOf 85 = .ok (.iload 4, 2) := by decide +kernel
theorem dX10_endsOf_87 : decode cX10_endsOf 87 = .ok (.iload_n 2, 1) := by decide +kernel
theorem dX10_endsOf_88 : decode cX10_endsOf 88 = .ok (.aload_n 0, 1) := by decide +kernel
theorem dX10_endsOf_89 : decode cX10_endsOf 89 = .ok (.getfield 23, 3) := by decide +kernel
theorem dX10_endsOf_92 : decode cX10_endsOf 92 = .ok (.iload 5, 2) := by decide +kernel
theorem dX10_endsOf_94 : decode cX10_endsOf 94 = .ok (.iaload, 1) := by decide +kernel
theorem dX10_endsOf_95 : decode cX10_endsOf 95 = .ok (.invokestatic 137, 3) := by decide +kernel
theorem dX10_endsOf_98 : decode cX10_endsOf 98 = .ok (.ifCond .eq 15, 3) := by decide +kernel
theorem dX10_endsOf_101 : decode cX10_endsOf 101 = .ok (.iconst 1, 1) := by decide +kernel
theorem dX10_endsOf_102 : decode cX10_endsOf 102 = .ok (.aload_n 0, 1) := by decide +kernel
theorem dX10_endsOf_103 : decode cX10_endsOf 103 = .ok (.getfield 20, 3) := by decide +kernel
theorem dX10_endsOf_106 : decode cX10_endsOf 106 = .ok (.iload 5, 2) := by decide +kernel
theorem dX10_endsOf_108 : decode cX10_endsOf 108 = .ok (.iaload, 1) := by decide +kernel
theorem dX10_endsOf_109 : decode cX10_endsOf 109 = .ok (.ishl, 1) := by decide +kernel
theorem dX10_endsOf_110 : decode cX10_endsOf 110 = .ok (.goto 4, 3) := by decide +kernel
theorem dX10_endsOf_113 : decode cX10_endsOf 113 = .ok (.iconst 0, 1) := by decide +kernel
theorem dX10_endsOf_114 : decode cX10_endsOf 114 = .ok (.ior, 1) := by decide +kernel
theorem dX10_endsOf_115 : decode cX10_endsOf 115 = .ok (.istore 4, 2) := by decide +kernel
theorem dX10_endsOf_117 : decode cX10_endsOf 117 = .ok (.iinc 5 1, 3) := by decide +kernel
theorem dX10_endsOf_120 : decode cX10_endsOf 120 = .ok (.goto (-94), 3) := by decide +kernel
theorem dX10_endsOf_123 : decode cX10_endsOf 123 = .ok (.iload 4, 2) := by decide +kernel
theorem dX10_endsOf_125 : decode cX10_endsOf 125 = .ok (.istore_n 2, 1) := by decide +kernel
theorem dX10_endsOf_126 : decode cX10_endsOf 126 = .ok (.iinc 3 1, 3) := by decide +kernel
theorem dX10_endsOf_129 : decode cX10_endsOf 129 = .ok (.goto (-117), 3) := by decide +kernel
theorem dX10_endsOf_132 : decode cX10_endsOf 132 = .ok (.iload_n 2, 1) := by decide +kernel
theorem dX10_endsOf_133 : decode cX10_endsOf 133 = .ok (.ireturn, 1) := by decide +kernel
theorem dX10_ends_0 : decode cX10_ends 0 = .ok (.aload_n 0, 1) := by decide +kernel
theorem dX10_ends_1 : decode cX10_ends 1 = .ok (.iload_n 1, 1) := by decide +kernel
theorem dX10_ends_2 : decode cX10_ends 2 = .ok (.invokevirtual 145, 3) := by decide +kernel
theorem dX10_ends_5 : decode cX10_ends 5 = .ok (.ifCond .eq 11, 3) := by decide +kernel
theorem dX10_ends_8 : decode cX10_ends 8 = .ok (.aload_n 0, 1) := by decide +kernel
theorem dX10_ends_9 : decode cX10_ends 9 = .ok (.iload_n 1, 1) := by decide +kernel
theorem dX10_ends_10 : decode cX10_ends 10 = .ok (.invokevirtual 196, 3) := by decide +kernel
theorem dX10_ends_13 : decode cX10_ends 13 = .ok (.goto 4, 3) := by decide +kernel
theorem dX10_ends_16 : decode cX10_ends 16 = .ok (.iconst (-1), 1) := by decide +kernel
theorem dX10_ends_17 : decode cX10_ends 17 = .ok (.ireturn, 1) := by decide +kernel
theorem dX10_can_0 : decode cX10_can 0 = .ok (.iconst 0, 1) := by decide +kernel
theorem dX10_can_1 : decode cX10_can 1 = .ok (.istore_n 1, 1) := by decide +kernel
theorem dX10_can_2 : decode cX10_can 2 = .ok (.iconst 0, 1) := by decide +kernel
theorem dX10_can_3 : decode cX10_can 3 = .ok (.istore_n 2, 1) := by decide +kernel
theorem dX10_can_4 : decode cX10_can 4 = .ok (.iload_n 2, 1) := by decide +kernel
theorem dX10_can_5 : decode cX10_can 5 = .ok (.aload_n 0, 1) := by decide +kernel
theorem dX10_can_6 : decode cX10_can 6 = .ok (.getfield 29, 3) := by decide +kernel
theorem dX10_can_9 : decode cX10_can 9 = .ok (.iconst 0, 1) := by decide +kernel
theorem dX10_can_10 : decode cX10_can 10 = .ok (.iaload, 1) := by decide +kernel
theorem dX10_can_11 : decode cX10_can 11 = .ok (.if_icmp .ge 27, 3) := by decide +kernel
theorem dX10_can_14 : decode cX10_can 14 = .ok (.iload_n 1, 1) := by decide +kernel
theorem dX10_can_15 : decode cX10_can 15 = .ok (.aload_n 0, 1) := by decide +kernel
theorem dX10_can_16 : decode cX10_can 16 = .ok (.iload_n 2, 1) := by decide +kernel
theorem dX10_can_17 : decode cX10_can 17 = .ok (.invokevirtual 196, 3) := by decide +kernel
theorem dX10_can_20 : decode cX10_can 20 = .ok (.ifCond .eq 9, 3) := by decide +kernel
theorem dX10_can_23 : decode cX10_can 23 = .ok (.iconst 1, 1) := by decide +kernel
theorem dX10_can_24 : decode cX10_can 24 = .ok (.iload_n 2, 1) := by decide +kernel
theorem dX10_can_25 : decode cX10_can 25 = .ok (.ishl, 1) := by decide +kernel
theorem dX10_can_26 : decode cX10_can 26 = .ok (.goto 4, 3) := by decide +kernel
theorem dX10_can_29 : decode cX10_can 29 = .ok (.iconst 0, 1) := by decide +kernel
theorem dX10_can_30 : decode cX10_can 30 = .ok (.ior, 1) := by decide +kernel
theorem dX10_can_31 : decode cX10_can 31 = .ok (.istore_n 1, 1) := by decide +kernel
theorem dX10_can_32 : decode cX10_can 32 = .ok (.iinc 2 1, 3) := by decide +kernel
theorem dX10_can_35 : decode cX10_can 35 = .ok (.goto (-31), 3) := by decide +kernel
theorem dX10_can_38 : decode cX10_can 38 = .ok (.iload_n 1, 1) := by decide +kernel
theorem dX10_can_39 : decode cX10_can 39 = .ok (.ireturn, 1) := by decide +kernel
theorem dX10_comesTo_0 : decode cX10_comesTo 0 = .ok (.aload_n 0, 1) := by decide +kernel
theorem dX10_comesTo_1 : decode cX10_comesTo 1 = .ok (.iload_n 1, 1) := by decide +kernel
theorem dX10_comesTo_2 : decode cX10_comesTo 2 = .ok (.invokevirtual 196, 3) := by decide +kernel
theorem dX10_comesTo_5 : decode cX10_comesTo 5 = .ok (.istore_n 3, 1) := by decide +kernel
theorem dX10_comesTo_6 : decode cX10_comesTo 6 = .ok (.iload_n 3, 1) := by decide +kernel
theorem dX10_comesTo_7 : decode cX10_comesTo 7 = .ok (.aload_n 0, 1) := by decide +kernel
theorem dX10_comesTo_8 : decode cX10_comesTo 8 = .ok (.getfield 20, 3) := by decide +kernel
theorem dX10_comesTo_11 : decode cX10_comesTo 11 = .ok (.iload_n 2, 1) := by decide +kernel
theorem dX10_comesTo_12 : decode cX10_comesTo 12 = .ok (.iaload, 1) := by decide +kernel
theorem dX10_comesTo_13 : decode cX10_comesTo 13 = .ok (.invokestatic 137, 3) := by decide +kernel
theorem dX10_comesTo_16 : decode cX10_comesTo 16 = .ok (.ifCond .ne 16, 3) := by decide +kernel
theorem dX10_comesTo_19 : decode cX10_comesTo 19 = .ok (.iload_n 3, 1) := by decide +kernel
theorem dX10_comesTo_20 : decode cX10_comesTo 20 = .ok (.aload_n 0, 1) := by decide +kernel
theorem dX10_comesTo_21 : decode cX10_comesTo 21 = .ok (.getfield 23, 3) := by decide +kernel
theorem dX10_comesTo_24 : decode cX10_comesTo 24 = .ok (.iload_n 2, 1) := by decide +kernel
theorem dX10_comesTo_25 : decode cX10_comesTo 25 = .ok (.iaload, 1) := by decide +kernel
theorem dX10_comesTo_26 : decode cX10_comesTo 26 = .ok (.invokestatic 137, 3) := by decide +kernel
theorem dX10_comesTo_29 : decode cX10_comesTo 29 = .ok (.ifCond .eq 7, 3) := by decide +kernel
theorem dX10_comesTo_32 : decode cX10_comesTo 32 = .ok (.iconst 1, 1) := by decide +kernel
theorem dX10_comesTo_33 : decode cX10_comesTo 33 = .ok (.goto 4, 3) := by decide +kernel
theorem dX10_comesTo_36 : decode cX10_comesTo 36 = .ok (.iconst 0, 1) := by decide +kernel
theorem dX10_comesTo_37 : decode cX10_comesTo 37 = .ok (.ireturn, 1) := by decide +kernel
theorem dX10_ask_0 : decode cX10_ask 0 = .ok (.bipush (-9), 2) := by decide +kernel
theorem dX10_ask_2 : decode cX10_ask 2 = .ok (.istore_n 1, 1) := by decide +kernel
theorem dX10_ask_3 : decode cX10_ask 3 = .ok (.iconst 0, 1) := by decide +kernel
theorem dX10_ask_4 : decode cX10_ask 4 = .ok (.istore_n 2, 1) := by decide +kernel
theorem dX10_ask_5 : decode cX10_ask 5 = .ok (.iconst 0, 1) := by decide +kernel
theorem dX10_ask_6 : decode cX10_ask 6 = .ok (.istore_n 3, 1) := by decide +kernel
theorem dX10_ask_7 : decode cX10_ask 7 = .ok (.iload_n 3, 1) := by decide +kernel
theorem dX10_ask_8 : decode cX10_ask 8 = .ok (.aload_n 0, 1) := by decide +kernel
theorem dX10_ask_9 : decode cX10_ask 9 = .ok (.getfield 17, 3) := by decide +kernel
theorem dX10_ask_12 : decode cX10_ask 12 = .ok (.iconst 0, 1) := by decide +kernel
theorem dX10_ask_13 : decode cX10_ask 13 = .ok (.iaload, 1) := by decide +kernel
theorem dX10_ask_14 : decode cX10_ask 14 = .ok (.if_icmp .ge 140, 3) := by decide +kernel
theorem dX10_ask_17 : decode cX10_ask 17 = .ok (.iconst 0, 1) := by decide +kernel
theorem dX10_ask_18 : decode cX10_ask 18 = .ok (.istore 4, 2) := by decide +kernel
theorem dX10_ask_20 : decode cX10_ask 20 = .ok (.iconst 0, 1) := by decide +kernel
theorem dX10_ask_21 : decode cX10_ask 21 = .ok (.istore 5, 2) := by decide +kernel
theorem dX10_ask_23 : decode cX10_ask 23 = .ok (.iload 5, 2) := by decide +kernel
theorem dX10_ask_25 : decode cX10_ask 25 = .ok (.aload_n 0, 1) := by decide +kernel
theorem dX10_ask_26 : decode cX10_ask 26 = .ok (.getfield 29, 3) := by decide +kernel
theorem dX10_ask_29 : decode cX10_ask 29 = .ok (.iconst 0, 1) := by decide +kernel
theorem dX10_ask_30 : decode cX10_ask 30 = .ok (.iaload, 1) := by decide +kernel
theorem dX10_ask_31 : decode cX10_ask 31 = .ok (.if_icmp .ge 95, 3) := by decide +kernel
theorem dX10_ask_34 : decode cX10_ask 34 = .ok (.iconst 0, 1) := by decide +kernel
theorem dX10_ask_35 : decode cX10_ask 35 = .ok (.istore 6, 2) := by decide +kernel
theorem dX10_ask_37 : decode cX10_ask 37 = .ok (.iconst 0, 1) := by decide +kernel
theorem dX10_ask_38 : decode cX10_ask 38 = .ok (.istore 7, 2) := by decide +kernel
theorem dX10_ask_40 : decode cX10_ask 40 = .ok (.iload 7, 2) := by decide +kernel
theorem dX10_ask_42 : decode cX10_ask 42 = .ok (.aload_n 0, 1) := by decide +kernel
theorem dX10_ask_43 : decode cX10_ask 43 = .ok (.getfield 29, 3) := by decide +kernel
theorem dX10_ask_46 : decode cX10_ask 46 = .ok (.iconst 0, 1) := by decide +kernel
theorem dX10_ask_47 : decode cX10_ask 47 = .ok (.iaload, 1) := by decide +kernel
theorem dX10_ask_48 : decode cX10_ask 48 = .ok (.if_icmp .ge 56, 3) := by decide +kernel
theorem dX10_ask_51 : decode cX10_ask 51 = .ok (.aload_n 0, 1) := by decide +kernel
theorem dX10_ask_52 : decode cX10_ask 52 = .ok (.iload 5, 2) := by decide +kernel
theorem dX10_ask_54 : decode cX10_ask 54 = .ok (.iload_n 3, 1) := by decide +kernel
theorem dX10_ask_55 : decode cX10_ask 55 = .ok (.invokevirtual 199, 3) := by decide +kernel
theorem dX10_ask_58 : decode cX10_ask 58 = .ok (.ifCond .eq 46, 3) := by decide +kernel
theorem dX10_ask_61 : decode cX10_ask 61 = .ok (.iload 6, 2) := by decide +kernel
theorem dX10_ask_63 : decode cX10_ask 63 = .ok (.aload_n 0, 1) := by decide +kernel
theorem dX10_ask_64 : decode cX10_ask 64 = .ok (.iload 7, 2) := by decide +kernel
theorem dX10_ask_66 : decode cX10_ask 66 = .ok (.iload_n 3, 1) := by decide +kernel
theorem dX10_ask_67 : decode cX10_ask 67 = .ok (.invokevirtual 199, 3) := by decide +kernel
theorem dX10_ask_70 : decode cX10_ask 70 = .ok (.ifCond .eq 24, 3) := by decide +kernel
theorem dX10_ask_73 : decode cX10_ask 73 = .ok (.aload_n 0, 1) := by decide +kernel
theorem dX10_ask_74 : decode cX10_ask 74 = .ok (.iload 7, 2) := by decide +kernel
theorem dX10_ask_76 : decode cX10_ask 76 = .ok (.iload_n 3, 1) := by decide +kernel
theorem dX10_ask_77 : decode cX10_ask 77 = .ok (.invokevirtual 152, 3) := by decide +kernel
theorem dX10_ask_80 : decode cX10_ask 80 = .ok (.aload_n 0, 1) := by decide +kernel
theorem dX10_ask_81 : decode cX10_ask 81 = .ok (.iload 5, 2) := by decide +kernel
theorem dX10_ask_83 : decode cX10_ask 83 = .ok (.iload_n 3, 1) := by decide +kernel
theorem dX10_ask_84 : decode cX10_ask 84 = .ok (.invokevirtual 152, 3) := by decide +kernel
theorem dX10_ask_87 : decode cX10_ask 87 = .ok (.if_icmp .ne 7, 3) := by decide +kernel
theorem dX10_ask_90 : decode cX10_ask 90 = .ok (.iconst 1, 1) := by decide +kernel
theorem dX10_ask_91 : decode cX10_ask 91 = .ok (.goto 4, 3) := by decide +kernel
theorem dX10_ask_94 : decode cX10_ask 94 = .ok (.iconst 0, 1) := by decide +kernel
theorem dX10_ask_95 : decode cX10_ask 95 = .ok (.iadd, 1) := by decide +kernel
theorem dX10_ask_96 : decode cX10_ask 96 = .ok (.istore 6, 2) := by decide +kernel
theorem dX10_ask_98 : decode cX10_ask 98 = .ok (.iinc 7 1, 3) := by decide +kernel
theorem dX10_ask_101 : decode cX10_ask 101 = .ok (.goto (-61), 3) := by decide +kernel
theorem dX10_ask_104 : decode cX10_ask 104 = .ok (.iload 6, 2) := by decide +kernel
theorem dX10_ask_106 : decode cX10_ask 106 = .ok (.iload 4, 2) := by decide +kernel
theorem dX10_ask_108 : decode cX10_ask 108 = .ok (.if_icmp .le 8, 3) := by decide +kernel
theorem dX10_ask_111 : decode cX10_ask 111 = .ok (.iload 6, 2) := by decide +kernel
theorem dX10_ask_113 : decode cX10_ask 113 = .ok (.goto 5, 3) := by decide +kernel
theorem dX10_ask_116 : decode cX10_ask 116 = .ok (.iload 4, 2) := by decide +kernel
theorem dX10_ask_118 : decode cX10_ask 118 = .ok (.istore 4, 2) := by decide +kernel
theorem dX10_ask_120 : decode cX10_ask 120 = .ok (.iinc 5 1, 3) := by decide +kernel
theorem dX10_ask_123 : decode cX10_ask 123 = .ok (.goto (-100), 3) := by decide +kernel
theorem dX10_ask_126 : decode cX10_ask 126 = .ok (.iload 4, 2) := by decide +kernel
theorem dX10_ask_128 : decode cX10_ask 128 = .ok (.ifCond .le 20, 3) := by decide +kernel
theorem dX10_ask_131 : decode cX10_ask 131 = .ok (.iload_n 1, 1) := by decide +kernel
theorem dX10_ask_132 : decode cX10_ask 132 = .ok (.bipush (-9), 2) := by decide +kernel
theorem dX10_ask_134 : decode cX10_ask 134 = .ok (.if_icmp .eq 9, 3) := by decide +kernel
theorem dX10_ask_137 : decode cX10_ask 137 = .ok (.iload 4, 2) := by decide +kernel
theorem dX10_ask_139 : decode cX10_ask 139 = .ok (.iload_n 2, 1) := by decide +kernel
theorem dX10_ask_140 : decode cX10_ask 140 = .ok (.if_icmp .ge 8, 3) := by decide +kernel
theorem dX10_ask_143 : decode cX10_ask 143 = .ok (.iload_n 3, 1) := by decide +kernel
theorem dX10_ask_144 : decode cX10_ask 144 = .ok (.istore_n 1, 1) := by decide +kernel
theorem dX10_ask_145 : decode cX10_ask 145 = .ok (.iload 4, 2) := by decide +kernel
theorem dX10_ask_147 : decode cX10_ask 147 = .ok (.istore_n 2, 1) := by decide +kernel
theorem dX10_ask_148 : decode cX10_ask 148 = .ok (.iinc 3 1, 3) := by decide +kernel
theorem dX10_ask_151 : decode cX10_ask 151 = .ok (.goto (-144), 3) := by decide +kernel
theorem dX10_ask_154 : decode cX10_ask 154 = .ok (.iload_n 1, 1) := by decide +kernel
theorem dX10_ask_155 : decode cX10_ask 155 = .ok (.ireturn, 1) := by decide +kernel
theorem dX10_costOf_0 : decode cX10_costOf 0 = .ok (.aload_n 0, 1) := by decide +kernel
theorem dX10_costOf_1 : decode cX10_costOf 1 = .ok (.iload_n 1, 1) := by decide +kernel
theorem dX10_costOf_2 : decode cX10_costOf 2 = .ok (.iload_n 2, 1) := by decide +kernel
theorem dX10_costOf_3 : decode cX10_costOf 3 = .ok (.invokevirtual 152, 3) := by decide +kernel
theorem dX10_costOf_6 : decode cX10_costOf 6 = .ok (.ifCond .le 8, 3) := by decide +kernel
theorem dX10_costOf_9 : decode cX10_costOf 9 = .ok (.bipush 101, 2) := by decide +kernel
theorem dX10_costOf_11 : decode cX10_costOf 11 = .ok (.goto 4, 3) := by decide +kernel
theorem dX10_costOf_14 : decode cX10_costOf 14 = .ok (.iconst 1, 1) := by decide +kernel
theorem dX10_costOf_15 : decode cX10_costOf 15 = .ok (.ireturn, 1) := by decide +kernel
theorem dX10_measure_0 : decode cX10_measure 0 = .ok (.iconst 0, 1) := by decide +kernel
theorem dX10_measure_1 : decode cX10_measure 1 = .ok (.istore_n 3, 1) := by decide +kernel
theorem dX10_measure_2 : decode cX10_measure 2 = .ok (.iload_n 3, 1) := by decide +kernel
theorem dX10_measure_3 : decode cX10_measure 3 = .ok (.bipush 8, 2) := by decide +kernel
theorem dX10_measure_5 : decode cX10_measure 5 = .ok (.if_icmp .ge 26, 3) := by decide +kernel
theorem dX10_measure_8 : decode cX10_measure 8 = .ok (.aload_n 0, 1) := by decide +kernel
theorem dX10_measure_9 : decode cX10_measure 9 = .ok (.getfield 75, 3) := by decide +kernel
theorem dX10_measure_12 : decode cX10_measure 12 = .ok (.iload_n 3, 1) := by decide +kernel
theorem dX10_measure_13 : decode cX10_measure 13 = .ok (.iload_n 3, 1) := by decide +kernel
theorem dX10_measure_14 : decode cX10_measure 14 = .ok (.iload_n 2, 1) := by decide +kernel
theorem dX10_measure_15 : decode cX10_measure 15 = .ok (.if_icmp .ne 7, 3) := by decide +kernel
theorem dX10_measure_18 : decode cX10_measure 18 = .ok (.iconst 0, 1) := by decide +kernel
theorem dX10_measure_19 : decode cX10_measure 19 = .ok (.goto 5, 3) := by decide +kernel
theorem dX10_measure_22 : decode cX10_measure 22 = .ok (.ldc 202, 2) := by decide +kernel
theorem dX10_measure_24 : decode cX10_measure 24 = .ok (.iastore, 1) := by decide +kernel
theorem dX10_measure_25 : decode cX10_measure 25 = .ok (.iinc 3 1, 3) := by decide +kernel
theorem dX10_measure_28 : decode cX10_measure 28 = .ok (.goto (-26), 3) := by decide +kernel
theorem dX10_measure_31 : decode cX10_measure 31 = .ok (.iconst 0, 1) := by decide +kernel
theorem dX10_measure_32 : decode cX10_measure 32 = .ok (.istore_n 3, 1) := by decide +kernel
theorem dX10_measure_33 : decode cX10_measure 33 = .ok (.iload_n 3, 1) := by decide +kernel
theorem dX10_measure_34 : decode cX10_measure 34 = .ok (.bipush 8, 2) := by decide +kernel
theorem dX10_measure_36 : decode cX10_measure 36 = .ok (.if_icmp .ge 165, 3) := by decide +kernel
theorem dX10_measure_39 : decode cX10_measure 39 = .ok (.iconst 0, 1) := by decide +kernel
theorem dX10_measure_40 : decode cX10_measure 40 = .ok (.istore 4, 2) := by decide +kernel
theorem dX10_measure_42 : decode cX10_measure 42 = .ok (.iload 4, 2) := by decide +kernel
theorem dX10_measure_44 : decode cX10_measure 44 = .ok (.aload_n 0, 1) := by decide +kernel
theorem dX10_measure_45 : decode cX10_measure 45 = .ok (.getfield 17, 3) := by decide +kernel
theorem dX10_measure_48 : decode cX10_measure 48 = .ok (.iconst 0, 1) := by decide +kernel
theorem dX10_measure_49 : decode cX10_measure 49 = .ok (.iaload, 1) := by decide +kernel
theorem dX10_measure_50 : decode cX10_measure 50 = .ok (.if_icmp .ge 145, 3) := by decide +kernel
theorem dX10_measure_53 : decode cX10_measure 53 = .ok (.aload_n 0, 1) := by decide +kernel
theorem dX10_measure_54 : decode cX10_measure 54 = .ok (.getfield 75, 3) := by decide +kernel
theorem dX10_measure_57 : decode cX10_measure 57 = .ok (.aload_n 0, 1) := by decide +kernel
theorem dX10_measure_58 : decode cX10_measure 58 = .ok (.getfield 23, 3) := by decide +kernel
theorem dX10_measure_61 : decode cX10_measure 61 = .ok (.iload 4, 2) := by decide +kernel
theorem dX10_measure_63 : decode cX10_measure 63 = .ok (.iaload, 1) := by decide +kernel
theorem dX10_measure_64 : decode cX10_measure 64 = .ok (.iaload, 1) := by decide +kernel
theorem dX10_measure_65 : decode cX10_measure 65 = .ok (.aload_n 0, 1) := by decide +kernel
theorem dX10_measure_66 : decode cX10_measure 66 = .ok (.iload_n 1, 1) := by decide +kernel
theorem dX10_measure_67 : decode cX10_measure 67 = .ok (.iload 4, 2) := by decide +kernel
theorem dX10_measure_69 : decode cX10_measure 69 = .ok (.invokevirtual 203, 3) := by decide +kernel
theorem dX10_measure_72 : decode cX10_measure 72 = .ok (.iadd, 1) := by decide +kernel
theorem dX10_measure_73 : decode cX10_measure 73 = .ok (.istore 5, 2) := by decide +kernel
theorem dX10_measure_75 : decode cX10_measure 75 = .ok (.aload_n 0, 1) := by decide +kernel
theorem dX10_measure_76 : decode cX10_measure 76 = .ok (.getfield 75, 3) := by decide +kernel
theorem dX10_measure_79 : decode cX10_measure 79 = .ok (.aload_n 0, 1) := by decide +kernel
theorem dX10_measure_80 : decode cX10_measure 80 = .ok (.getfield 20, 3) := by decide +kernel
theorem dX10_measure_83 : decode cX10_measure 83 = .ok (.iload 4, 2) := by decide +kernel
theorem dX10_measure_85 : decode cX10_measure 85 = .ok (.iaload, 1) := by decide +kernel
theorem dX10_measure_86 : decode cX10_measure 86 = .ok (.iaload, 1) := by decide +kernel
theorem dX10_measure_87 : decode cX10_measure 87 = .ok (.aload_n 0, 1) := by decide +kernel
theorem dX10_measure_88 : decode cX10_measure 88 = .ok (.iload_n 1, 1) := by decide +kernel
theorem dX10_measure_89 : decode cX10_measure 89 = .ok (.iload 4, 2) := by decide +kernel
theorem dX10_measure_91 : decode cX10_measure 91 = .ok (.invokevirtual 203, 3) := by decide +kernel
theorem dX10_measure_94 : decode cX10_measure 94 = .ok (.iadd, 1) := by decide +kernel
theorem dX10_measure_95 : decode cX10_measure 95 = .ok (.istore 6, 2) := by decide +kernel
theorem dX10_measure_97 : decode cX10_measure 97 = .ok (.aload_n 0, 1) := by decide +kernel
theorem dX10_measure_98 : decode cX10_measure 98 = .ok (.getfield 75, 3) := by decide +kernel
theorem dX10_measure_101 : decode cX10_measure 101 = .ok (.aload_n 0, 1) := by decide +kernel
theorem dX10_measure_102 : decode cX10_measure 102 = .ok (.getfield 20, 3) := by decide +kernel
theorem dX10_measure_105 : decode cX10_measure 105 = .ok (.iload 4, 2) := by decide +kernel
theorem dX10_measure_107 : decode cX10_measure 107 = .ok (.iaload, 1) := by decide +kernel
theorem dX10_measure_108 : decode cX10_measure 108 = .ok (.iload 5, 2) := by decide +kernel
theorem dX10_measure_110 : decode cX10_measure 110 = .ok (.aload_n 0, 1) := by decide +kernel
theorem dX10_measure_111 : decode cX10_measure 111 = .ok (.getfield 75, 3) := by decide +kernel
theorem dX10_measure_114 : decode cX10_measure 114 = .ok (.aload_n 0, 1) := by decide +kernel
theorem dX10_measure_115 : decode cX10_measure 115 = .ok (.getfield 20, 3) := by decide +kernel
theorem dX10_measure_118 : decode cX10_measure 118 = .ok (.iload 4, 2) := by decide +kernel
theorem dX10_measure_120 : decode cX10_measure 120 = .ok (.iaload, 1) := by decide +kernel
theorem dX10_measure_121 : decode cX10_measure 121 = .ok (.iaload, 1) := by decide +kernel
theorem dX10_measure_122 : decode cX10_measure 122 = .ok (.if_icmp .ge 8, 3) := by decide +kernel
theorem dX10_measure_125 : decode cX10_measure 125 = .ok (.iload 5, 2) := by decide +kernel
theorem dX10_measure_127 : decode cX10_measure 127 = .ok (.goto 15, 3) := by decide +kernel
theorem dX10_measure_130 : decode cX10_measure 130 = .ok (.aload_n 0, 1) := by decide +kernel
theorem dX10_measure_131 : decode cX10_measure 131 = .ok (.getfield 75, 3) := by decide +kernel
theorem dX10_measure_134 : decode cX10_measure 134 = .ok (.aload_n 0, 1) := by decide +kernel
theorem dX10_measure_135 : decode cX10_measure 135 = .ok (.getfield 20, 3) := by decide +kernel
theorem dX10_measure_138 : decode cX10_measure 138 = .ok (.iload 4, 2) := by decide +kernel
theorem dX10_measure_140 : decode cX10_measure 140 = .ok (.iaload, 1) := by decide +kernel
theorem dX10_measure_141 : decode cX10_measure 141 = .ok (.iaload, 1) := by decide +kernel
theorem dX10_measure_142 : decode cX10_measure 142 = .ok (.iastore, 1) := by decide +kernel
theorem dX10_measure_143 : decode cX10_measure 143 = .ok (.aload_n 0, 1) := by decide +kernel
theorem dX10_measure_144 : decode cX10_measure 144 = .ok (.getfield 75, 3) := by decide +kernel
theorem dX10_measure_147 : decode cX10_measure 147 = .ok (.aload_n 0, 1) := by decide +kernel
theorem dX10_measure_148 : decode cX10_measure 148 = .ok (.getfield 23, 3) := by decide +kernel
theorem dX10_measure_151 : decode cX10_measure 151 = .ok (.iload 4, 2) := by decide +kernel
theorem dX10_measure_153 : decode cX10_measure 153 = .ok (.iaload, 1) := by decide +kernel
theorem dX10_measure_154 : decode cX10_measure 154 = .ok (.iload 6, 2) := by decide +kernel
theorem dX10_measure_156 : decode cX10_measure 156 = .ok (.aload_n 0, 1) := by decide +kernel
theorem dX10_measure_157 : decode cX10_measure 157 = .ok (.getfield 75, 3) := by decide +kernel
theorem dX10_measure_160 : decode cX10_measure 160 = .ok (.aload_n 0, 1) := by decide +kernel
theorem dX10_measure_161 : decode cX10_measure 161 = .ok (.getfield 23, 3) := by decide +kernel
theorem dX10_measure_164 : decode cX10_measure 164 = .ok (.iload 4, 2) := by decide +kernel
theorem dX10_measure_166 : decode cX10_measure 166 = .ok (.iaload, 1) := by decide +kernel
theorem dX10_measure_167 : decode cX10_measure 167 = .ok (.iaload, 1) := by decide +kernel
theorem dX10_measure_168 : decode cX10_measure 168 = .ok (.if_icmp .ge 8, 3) := by decide +kernel
theorem dX10_measure_171 : decode cX10_measure 171 = .ok (.iload 6, 2) := by decide +kernel
theorem dX10_measure_173 : decode cX10_measure 173 = .ok (.goto 15, 3) := by decide +kernel
theorem dX10_measure_176 : decode cX10_measure 176 = .ok (.aload_n 0, 1) := by decide +kernel
theorem dX10_measure_177 : decode cX10_measure 177 = .ok (.getfield 75, 3) := by decide +kernel
theorem dX10_measure_180 : decode cX10_measure 180 = .ok (.aload_n 0, 1) := by decide +kernel
theorem dX10_measure_181 : decode cX10_measure 181 = .ok (.getfield 23, 3) := by decide +kernel
theorem dX10_measure_184 : decode cX10_measure 184 = .ok (.iload 4, 2) := by decide +kernel
theorem dX10_measure_186 : decode cX10_measure 186 = .ok (.iaload, 1) := by decide +kernel
theorem dX10_measure_187 : decode cX10_measure 187 = .ok (.iaload, 1) := by decide +kernel
theorem dX10_measure_188 : decode cX10_measure 188 = .ok (.iastore, 1) := by decide +kernel
theorem dX10_measure_189 : decode cX10_measure 189 = .ok (.iinc 4 1, 3) := by decide +kernel
theorem dX10_measure_192 : decode cX10_measure 192 = .ok (.goto (-150), 3) := by decide +kernel
theorem dX10_measure_195 : decode cX10_measure 195 = .ok (.iinc 3 1, 3) := by decide +kernel
theorem dX10_measure_198 : decode cX10_measure 198 = .ok (.goto (-165), 3) := by decide +kernel
theorem dX10_measure_201 : decode cX10_measure 201 = .ok (.return_, 1) := by decide +kernel
theorem dX10_quiet_0 : decode cX10_quiet 0 = .ok (.aload_n 0, 1) := by decide +kernel
theorem dX10_quiet_1 : decode cX10_quiet 1 = .ok (.iload_n 1, 1) := by decide +kernel
theorem dX10_quiet_2 : decode cX10_quiet 2 = .ok (.invokevirtual 145, 3) := by decide +kernel
theorem dX10_quiet_5 : decode cX10_quiet 5 = .ok (.ifCond .eq 29, 3) := by decide +kernel
theorem dX10_quiet_8 : decode cX10_quiet 8 = .ok (.aload_n 0, 1) := by decide +kernel
theorem dX10_quiet_9 : decode cX10_quiet 9 = .ok (.iload_n 2, 1) := by decide +kernel
theorem dX10_quiet_10 : decode cX10_quiet 10 = .ok (.invokevirtual 192, 3) := by decide +kernel
theorem dX10_quiet_13 : decode cX10_quiet 13 = .ok (.ifCond .eq 21, 3) := by decide +kernel
theorem dX10_quiet_16 : decode cX10_quiet 16 = .ok (.aload_n 0, 1) := by decide +kernel
theorem dX10_quiet_17 : decode cX10_quiet 17 = .ok (.iload_n 3, 1) := by decide +kernel
theorem dX10_quiet_18 : decode cX10_quiet 18 = .ok (.invokevirtual 192, 3) := by decide +kernel
theorem dX10_quiet_21 : decode cX10_quiet 21 = .ok (.ifCond .eq 13, 3) := by decide +kernel
theorem dX10_quiet_24 : decode cX10_quiet 24 = .ok (.iload 4, 2) := by decide +kernel
theorem dX10_quiet_26 : decode cX10_quiet 26 = .ok (.iconst 0, 1) := by decide +kernel
theorem dX10_quiet_27 : decode cX10_quiet 27 = .ok (.iconst 2, 1) := by decide +kernel
theorem dX10_quiet_28 : decode cX10_quiet 28 = .ok (.invokestatic 81, 3) := by decide +kernel
theorem dX10_quiet_31 : decode cX10_quiet 31 = .ok (.ifCond .ne 5, 3) := by decide +kernel
theorem dX10_quiet_34 : decode cX10_quiet 34 = .ok (.iconst (-1), 1) := by decide +kernel
theorem dX10_quiet_35 : decode cX10_quiet 35 = .ok (.ireturn, 1) := by decide +kernel
theorem dX10_quiet_36 : decode cX10_quiet 36 = .ok (.aload_n 0, 1) := by decide +kernel
theorem dX10_quiet_37 : decode cX10_quiet 37 = .ok (.iload_n 1, 1) := by decide +kernel
theorem dX10_quiet_38 : decode cX10_quiet 38 = .ok (.iload_n 3, 1) := by decide +kernel
theorem dX10_quiet_39 : decode cX10_quiet 39 = .ok (.invokevirtual 206, 3) := by decide +kernel
theorem dX10_quiet_42 : decode cX10_quiet 42 = .ok (.aload_n 0, 1) := by decide +kernel
theorem dX10_quiet_43 : decode cX10_quiet 43 = .ok (.getfield 75, 3) := by decide +kernel
theorem dX10_quiet_46 : decode cX10_quiet 46 = .ok (.iload_n 2, 1) := by decide +kernel
theorem dX10_quiet_47 : decode cX10_quiet 47 = .ok (.iaload, 1) := by decide +kernel
theorem dX10_quiet_48 : decode cX10_quiet 48 = .ok (.ldc 202, 2) := by decide +kernel
theorem dX10_quiet_50 : decode cX10_quiet 50 = .ok (.if_icmp .lt 6, 3) := by decide +kernel
theorem dX10_quiet_53 : decode cX10_quiet 53 = .ok (.bipush (-9), 2) := by decide +kernel
theorem dX10_quiet_55 : decode cX10_quiet 55 = .ok (.ireturn, 1) := by decide +kernel
theorem dX10_quiet_56 : decode cX10_quiet 56 = .ok (.iload 4, 2) := by decide +kernel
theorem dX10_quiet_58 : decode cX10_quiet 58 = .ok (.iconst 2, 1) := by decide +kernel
theorem dX10_quiet_59 : decode cX10_quiet 59 = .ok (.if_icmp .ge 30, 3) := by decide +kernel
theorem dX10_quiet_62 : decode cX10_quiet 62 = .ok (.iload 4, 2) := by decide +kernel
theorem dX10_quiet_64 : decode cX10_quiet 64 = .ok (.ifCond .ne 15, 3) := by decide +kernel
theorem dX10_quiet_67 : decode cX10_quiet 67 = .ok (.aload_n 0, 1) := by decide +kernel
theorem dX10_quiet_68 : decode cX10_quiet 68 = .ok (.getfield 75, 3) := by decide +kernel
theorem dX10_quiet_71 : decode cX10_quiet 71 = .ok (.iload_n 2, 1) := by decide +kernel
theorem dX10_quiet_72 : decode cX10_quiet 72 = .ok (.iaload, 1) := by decide +kernel
theorem dX10_quiet_73 : decode cX10_quiet 73 = .ok (.bipush 100, 2) := by decide +kernel
theorem dX10_quiet_75 : decode cX10_quiet 75 = .ok (.idiv, 1) := by decide +kernel
theorem dX10_quiet_76 : decode cX10_quiet 76 = .ok (.goto 12, 3) := by decide +kernel
theorem dX10_quiet_79 : decode cX10_quiet 79 = .ok (.aload_n 0, 1) := by decide +kernel
theorem dX10_quiet_80 : decode cX10_quiet 80 = .ok (.getfield 75, 3) := by decide +kernel
theorem dX10_quiet_83 : decode cX10_quiet 83 = .ok (.iload_n 2, 1) := by decide +kernel
theorem dX10_quiet_84 : decode cX10_quiet 84 = .ok (.iaload, 1) := by decide +kernel
theorem dX10_quiet_85 : decode cX10_quiet 85 = .ok (.bipush 100, 2) := by decide +kernel
theorem dX10_quiet_87 : decode cX10_quiet 87 = .ok (.irem, 1) := by decide +kernel
theorem dX10_quiet_88 : decode cX10_quiet 88 = .ok (.ireturn, 1) := by decide +kernel
theorem dX10_quiet_89 : decode cX10_quiet 89 = .ok (.bipush (-9), 2) := by decide +kernel
theorem dX10_quiet_91 : decode cX10_quiet 91 = .ok (.istore 5, 2) := by decide +kernel
theorem dX10_quiet_93 : decode cX10_quiet 93 = .ok (.aload_n 0, 1) := by decide +kernel
theorem dX10_quiet_94 : decode cX10_quiet 94 = .ok (.getfield 17, 3) := by decide +kernel
theorem dX10_quiet_97 : decode cX10_quiet 97 = .ok (.iconst 0, 1) := by decide +kernel
theorem dX10_quiet_98 : decode cX10_quiet 98 = .ok (.iaload, 1) := by decide +kernel
theorem dX10_quiet_99 : decode cX10_quiet 99 = .ok (.iconst 1, 1) := by decide +kernel
theorem dX10_quiet_100 : decode cX10_quiet 100 = .ok (.isub, 1) := by decide +kernel
theorem dX10_quiet_101 : decode cX10_quiet 101 = .ok (.istore 6, 2) := by decide +kernel
theorem dX10_quiet_103 : decode cX10_quiet 103 = .ok (.iload 6, 2) := by decide +kernel
theorem dX10_quiet_105 : decode cX10_quiet 105 = .ok (.ifCond .lt 74, 3) := by decide +kernel
theorem dX10_quiet_108 : decode cX10_quiet 108 = .ok (.iload_n 2, 1) := by decide +kernel
theorem dX10_quiet_109 : decode cX10_quiet 109 = .ok (.iload_n 3, 1) := by decide +kernel
theorem dX10_quiet_110 : decode cX10_quiet 110 = .ok (.if_icmp .eq 46, 3) := by decide +kernel
theorem dX10_quiet_113 : decode cX10_quiet 113 = .ok (.aload_n 0, 1) := by decide +kernel
theorem dX10_quiet_114 : decode cX10_quiet 114 = .ok (.iload 6, 2) := by decide +kernel
theorem dX10_quiet_116 : decode cX10_quiet 116 = .ok (.iload_n 2, 1) := by decide +kernel
theorem dX10_quiet_117 : decode cX10_quiet 117 = .ok (.invokevirtual 155, 3) := by decide +kernel
theorem dX10_quiet_120 : decode cX10_quiet 120 = .ok (.ifCond .eq 36, 3) := by decide +kernel
theorem dX10_quiet_123 : decode cX10_quiet 123 = .ok (.aload_n 0, 1) := by decide +kernel
theorem dX10_quiet_124 : decode cX10_quiet 124 = .ok (.iload_n 1, 1) := by decide +kernel
theorem dX10_quiet_125 : decode cX10_quiet 125 = .ok (.iload 6, 2) := by decide +kernel
theorem dX10_quiet_127 : decode cX10_quiet 127 = .ok (.invokevirtual 203, 3) := by decide +kernel
theorem dX10_quiet_130 : decode cX10_quiet 130 = .ok (.aload_n 0, 1) := by decide +kernel
theorem dX10_quiet_131 : decode cX10_quiet 131 = .ok (.getfield 75, 3) := by decide +kernel
theorem dX10_quiet_134 : decode cX10_quiet 134 = .ok (.aload_n 0, 1) := by decide +kernel
theorem dX10_quiet_135 : decode cX10_quiet 135 = .ok (.iload 6, 2) := by decide +kernel
theorem dX10_quiet_137 : decode cX10_quiet 137 = .ok (.iload_n 2, 1) := by decide +kernel
theorem dX10_quiet_138 : decode cX10_quiet 138 = .ok (.invokevirtual 161, 3) := by decide +kernel
theorem dX10_quiet_141 : decode cX10_quiet 141 = .ok (.iaload, 1) := by decide +kernel
theorem dX10_quiet_142 : decode cX10_quiet 142 = .ok (.iadd, 1) := by decide +kernel
theorem dX10_quiet_143 : decode cX10_quiet 143 = .ok (.aload_n 0, 1) := by decide +kernel
theorem dX10_quiet_144 : decode cX10_quiet 144 = .ok (.getfield 75, 3) := by decide +kernel
theorem dX10_quiet_147 : decode cX10_quiet 147 = .ok (.iload_n 2, 1) := by decide +kernel
theorem dX10_quiet_148 : decode cX10_quiet 148 = .ok (.iaload, 1) := by decide +kernel
theorem dX10_quiet_149 : decode cX10_quiet 149 = .ok (.if_icmp .ne 7, 3) := by decide +kernel
theorem dX10_quiet_152 : decode cX10_quiet 152 = .ok (.iconst 1, 1) := by decide +kernel
theorem dX10_quiet_153 : decode cX10_quiet 153 = .ok (.goto 4, 3) := by decide +kernel
theorem dX10_quiet_156 : decode cX10_quiet 156 = .ok (.iconst 0, 1) := by decide +kernel
theorem dX10_quiet_157 : decode cX10_quiet 157 = .ok (.istore 7, 2) := by decide +kernel
theorem dX10_quiet_159 : decode cX10_quiet 159 = .ok (.iload 7, 2) := by decide +kernel
theorem dX10_quiet_161 : decode cX10_quiet 161 = .ok (.ifCond .eq 8, 3) := by decide +kernel
theorem dX10_quiet_164 : decode cX10_quiet 164 = .ok (.iload 6, 2) := by decide +kernel
theorem dX10_quiet_166 : decode cX10_quiet 166 = .ok (.goto 5, 3) := by decide +kernel
theorem dX10_quiet_169 : decode cX10_quiet 169 = .ok (.iload 5, 2) := by decide +kernel
theorem dX10_quiet_171 : decode cX10_quiet 171 = .ok (.istore 5, 2) := by decide +kernel
theorem dX10_quiet_173 : decode cX10_quiet 173 = .ok (.iinc 6 (-1), 3) := by decide +kernel
theorem dX10_quiet_176 : decode cX10_quiet 176 = .ok (.goto (-73), 3) := by decide +kernel
theorem dX10_quiet_179 : decode cX10_quiet 179 = .ok (.iload 5, 2) := by decide +kernel
theorem dX10_quiet_181 : decode cX10_quiet 181 = .ok (.ireturn, 1) := by decide +kernel
theorem dX10_fifthsOf_0 : decode cX10_fifthsOf 0 = .ok (.iconst 0, 1) := by decide +kernel
theorem dX10_fifthsOf_1 : decode cX10_fifthsOf 1 = .ok (.istore_n 2, 1) := by decide +kernel
theorem dX10_fifthsOf_2 : decode cX10_fifthsOf 2 = .ok (.iconst 0, 1) := by decide +kernel
theorem dX10_fifthsOf_3 : decode cX10_fifthsOf 3 = .ok (.istore_n 3, 1) := by decide +kernel
theorem dX10_fifthsOf_4 : decode cX10_fifthsOf 4 = .ok (.iload_n 3, 1) := by decide +kernel
theorem dX10_fifthsOf_5 : decode cX10_fifthsOf 5 = .ok (.aload_n 0, 1) := by decide +kernel
theorem dX10_fifthsOf_6 : decode cX10_fifthsOf 6 = .ok (.getfield 17, 3) := by decide +kernel
theorem dX10_fifthsOf_9 : decode cX10_fifthsOf 9 = .ok (.iconst 0, 1) := by decide +kernel
theorem dX10_fifthsOf_10 : decode cX10_fifthsOf 10 = .ok (.iaload, 1) := by decide +kernel
theorem dX10_fifthsOf_11 : decode cX10_fifthsOf 11 = .ok (.if_icmp .ge 123, 3) := by decide +kernel
theorem dX10_fifthsOf_14 : decode cX10_fifthsOf 14 = .ok (.iload_n 3, 1) := by decide +kernel
theorem dX10_fifthsOf_15 : decode cX10_fifthsOf 15 = .ok (.iconst 1, 1) := by decide +kernel
theorem dX10_fifthsOf_16 : decode cX10_fifthsOf 16 = .ok (.iadd, 1) := by decide +kernel
theorem dX10_fifthsOf_17 : decode cX10_fifthsOf 17 = .ok (.istore 4, 2) := by decide +kernel
theorem dX10_fifthsOf_19 : decode cX10_fifthsOf 19 = .ok (.iload 4, 2) := by decide +kernel
theorem dX10_fifthsOf_21 : decode cX10_fifthsOf 21 = .ok (.aload_n 0, 1) := by decide +kernel
theorem dX10_fifthsOf_22 : decode cX10_fifthsOf 22 = .ok (.getfield 17, 3) := by decide +kernel
theorem dX10_fifthsOf_25 : decode cX10_fifthsOf 25 = .ok (.iconst 0, 1) := by decide +kernel
theorem dX10_fifthsOf_26 : decode cX10_fifthsOf 26 = .ok (.iaload, 1) := by decide +kernel
theorem dX10_fifthsOf_27 : decode cX10_fifthsOf 27 = .ok (.if_icmp .ge 101, 3) := by decide +kernel
theorem dX10_fifthsOf_30 : decode cX10_fifthsOf 30 = .ok (.aload_n 0, 1) := by decide +kernel
theorem dX10_fifthsOf_31 : decode cX10_fifthsOf 31 = .ok (.getfield 50, 3) := by decide +kernel
theorem dX10_fifthsOf_34 : decode cX10_fifthsOf 34 = .ok (.bipush 6, 2) := by decide +kernel
theorem dX10_fifthsOf_36 : decode cX10_fifthsOf 36 = .ok (.iload_n 3, 1) := by decide +kernel
theorem dX10_fifthsOf_37 : decode cX10_fifthsOf 37 = .ok (.iadd, 1) := by decide +kernel
theorem dX10_fifthsOf_38 : decode cX10_fifthsOf 38 = .ok (.iaload, 1) := by decide +kernel
theorem dX10_fifthsOf_39 : decode cX10_fifthsOf 39 = .ok (.aload_n 0, 1) := by decide +kernel
theorem dX10_fifthsOf_40 : decode cX10_fifthsOf 40 = .ok (.getfield 50, 3) := by decide +kernel
theorem dX10_fifthsOf_43 : decode cX10_fifthsOf 43 = .ok (.bipush 6, 2) := by decide +kernel
theorem dX10_fifthsOf_45 : decode cX10_fifthsOf 45 = .ok (.iload 4, 2) := by decide +kernel
theorem dX10_fifthsOf_47 : decode cX10_fifthsOf 47 = .ok (.iadd, 1) := by decide +kernel
theorem dX10_fifthsOf_48 : decode cX10_fifthsOf 48 = .ok (.iaload, 1) := by decide +kernel
theorem dX10_fifthsOf_49 : decode cX10_fifthsOf 49 = .ok (.isub, 1) := by decide +kernel
theorem dX10_fifthsOf_50 : decode cX10_fifthsOf 50 = .ok (.istore 5, 2) := by decide +kernel
theorem dX10_fifthsOf_52 : decode cX10_fifthsOf 52 = .ok (.aload_n 0, 1) := by decide +kernel
theorem dX10_fifthsOf_53 : decode cX10_fifthsOf 53 = .ok (.iload_n 3, 1) := by decide +kernel
theorem dX10_fifthsOf_54 : decode cX10_fifthsOf 54 = .ok (.iload_n 1, 1) := by decide +kernel
theorem dX10_fifthsOf_55 : decode cX10_fifthsOf 55 = .ok (.invokevirtual 155, 3) := by decide +kernel
theorem dX10_fifthsOf_58 : decode cX10_fifthsOf 58 = .ok (.ifCond .eq 34, 3) := by decide +kernel
theorem dX10_fifthsOf_61 : decode cX10_fifthsOf 61 = .ok (.aload_n 0, 1) := by decide +kernel
theorem dX10_fifthsOf_62 : decode cX10_fifthsOf 62 = .ok (.iload 4, 2) := by decide +kernel
theorem dX10_fifthsOf_64 : decode cX10_fifthsOf 64 = .ok (.iload_n 1, 1) := by decide +kernel
theorem dX10_fifthsOf_65 : decode cX10_fifthsOf 65 = .ok (.invokevirtual 155, 3) := by decide +kernel
theorem dX10_fifthsOf_68 : decode cX10_fifthsOf 68 = .ok (.ifCond .eq 24, 3) := by decide +kernel
theorem dX10_fifthsOf_71 : decode cX10_fifthsOf 71 = .ok (.aload_n 0, 1) := by decide +kernel
theorem dX10_fifthsOf_72 : decode cX10_fifthsOf 72 = .ok (.iload_n 3, 1) := by decide +kernel
theorem dX10_fifthsOf_73 : decode cX10_fifthsOf 73 = .ok (.invokevirtual 174, 3) := by decide +kernel
theorem dX10_fifthsOf_76 : decode cX10_fifthsOf 76 = .ok (.ifCond .eq 16, 3) := by decide +kernel
theorem dX10_fifthsOf_79 : decode cX10_fifthsOf 79 = .ok (.aload_n 0, 1) := by decide +kernel
theorem dX10_fifthsOf_80 : decode cX10_fifthsOf 80 = .ok (.iload 4, 2) := by decide +kernel
theorem dX10_fifthsOf_82 : decode cX10_fifthsOf 82 = .ok (.invokevirtual 174, 3) := by decide +kernel
theorem dX10_fifthsOf_85 : decode cX10_fifthsOf 85 = .ok (.ifCond .eq 7, 3) := by decide +kernel
theorem dX10_fifthsOf_88 : decode cX10_fifthsOf 88 = .ok (.iconst 1, 1) := by decide +kernel
theorem dX10_fifthsOf_89 : decode cX10_fifthsOf 89 = .ok (.goto 4, 3) := by decide +kernel
theorem dX10_fifthsOf_92 : decode cX10_fifthsOf 92 = .ok (.iconst 0, 1) := by decide +kernel
theorem dX10_fifthsOf_93 : decode cX10_fifthsOf 93 = .ok (.istore 6, 2) := by decide +kernel
theorem dX10_fifthsOf_95 : decode cX10_fifthsOf 95 = .ok (.iload_n 2, 1) := by decide +kernel
theorem dX10_fifthsOf_96 : decode cX10_fifthsOf 96 = .ok (.iload 6, 2) := by decide +kernel
theorem dX10_fifthsOf_98 : decode cX10_fifthsOf 98 = .ok (.ifCond .eq 21, 3) := by decide +kernel
theorem dX10_fifthsOf_101 : decode cX10_fifthsOf 101 = .ok (.iload 5, 2) := by decide +kernel
theorem dX10_fifthsOf_103 : decode cX10_fifthsOf 103 = .ok (.bipush 7, 2) := by decide +kernel
theorem dX10_fifthsOf_105 : decode cX10_fifthsOf 105 = .ok (.if_icmp .eq 10, 3) := by decide +kernel
theorem dX10_fifthsOf_108 : decode cX10_fifthsOf 108 = .ok (.iload 5, 2) := by decide +kernel
theorem dX10_fifthsOf_110 : decode cX10_fifthsOf 110 = .ok (.bipush (-7), 2) := by decide +kernel
theorem dX10_fifthsOf_112 : decode cX10_fifthsOf 112 = .ok (.if_icmp .ne 7, 3) := by decide +kernel
theorem dX10_fifthsOf_115 : decode cX10_fifthsOf 115 = .ok (.iconst 1, 1) := by decide +kernel
theorem dX10_fifthsOf_116 : decode cX10_fifthsOf 116 = .ok (.goto 4, 3) := by decide +kernel
theorem dX10_fifthsOf_119 : decode cX10_fifthsOf 119 = .ok (.iconst 0, 1) := by decide +kernel
theorem dX10_fifthsOf_120 : decode cX10_fifthsOf 120 = .ok (.iadd, 1) := by decide +kernel
theorem dX10_fifthsOf_121 : decode cX10_fifthsOf 121 = .ok (.istore_n 2, 1) := by decide +kernel
theorem dX10_fifthsOf_122 : decode cX10_fifthsOf 122 = .ok (.iinc 4 1, 3) := by decide +kernel
theorem dX10_fifthsOf_125 : decode cX10_fifthsOf 125 = .ok (.goto (-106), 3) := by decide +kernel
theorem dX10_fifthsOf_128 : decode cX10_fifthsOf 128 = .ok (.iinc 3 1, 3) := by decide +kernel
theorem dX10_fifthsOf_131 : decode cX10_fifthsOf 131 = .ok (.goto (-127), 3) := by decide +kernel
theorem dX10_fifthsOf_134 : decode cX10_fifthsOf 134 = .ok (.iload_n 2, 1) := by decide +kernel
theorem dX10_fifthsOf_135 : decode cX10_fifthsOf 135 = .ok (.ireturn, 1) := by decide +kernel
theorem dX10_fifths_0 : decode cX10_fifths 0 = .ok (.aload_n 0, 1) := by decide +kernel
theorem dX10_fifths_1 : decode cX10_fifths 1 = .ok (.iload_n 1, 1) := by decide +kernel
theorem dX10_fifths_2 : decode cX10_fifths 2 = .ok (.invokevirtual 192, 3) := by decide +kernel
theorem dX10_fifths_5 : decode cX10_fifths 5 = .ok (.ifCond .eq 11, 3) := by decide +kernel
theorem dX10_fifths_8 : decode cX10_fifths 8 = .ok (.aload_n 0, 1) := by decide +kernel
theorem dX10_fifths_9 : decode cX10_fifths 9 = .ok (.iload_n 1, 1) := by decide +kernel
theorem dX10_fifths_10 : decode cX10_fifths 10 = .ok (.invokevirtual 210, 3) := by decide +kernel
theorem dX10_fifths_13 : decode cX10_fifths 13 = .ok (.goto 4, 3) := by decide +kernel
theorem dX10_fifths_16 : decode cX10_fifths 16 = .ok (.iconst (-1), 1) := by decide +kernel
theorem dX10_fifths_17 : decode cX10_fifths 17 = .ok (.ireturn, 1) := by decide +kernel
theorem dX10_milkBy_0 : decode cX10_milkBy 0 = .ok (.iload_n 3, 1) := by decide +kernel
theorem dX10_milkBy_1 : decode cX10_milkBy 1 = .ok (.iload_n 2, 1) := by decide +kernel
theorem dX10_milkBy_2 : decode cX10_milkBy 2 = .ok (.invokestatic 137, 3) := by decide +kernel
theorem dX10_milkBy_5 : decode cX10_milkBy 5 = .ok (.ifCond .eq 8, 3) := by decide +kernel
theorem dX10_milkBy_8 : decode cX10_milkBy 8 = .ok (.bipush (-9), 2) := by decide +kernel
theorem dX10_milkBy_10 : decode cX10_milkBy 10 = .ok (.goto 21, 3) := by decide +kernel
theorem dX10_milkBy_13 : decode cX10_milkBy 13 = .ok (.aload_n 0, 1) := by decide +kernel
theorem dX10_milkBy_14 : decode cX10_milkBy 14 = .ok (.getfield 78, 3) := by decide +kernel
theorem dX10_milkBy_17 : decode cX10_milkBy 17 = .ok (.sipush 256, 3) := by decide +kernel
theorem dX10_milkBy_20 : decode cX10_milkBy 20 = .ok (.iload_n 1, 1) := by decide +kernel
theorem dX10_milkBy_21 : decode cX10_milkBy 21 = .ok (.iconst 1, 1) := by decide +kernel
theorem dX10_milkBy_22 : decode cX10_milkBy 22 = .ok (.iadd, 1) := by decide +kernel
theorem dX10_milkBy_23 : decode cX10_milkBy 23 = .ok (.imul, 1) := by decide +kernel
theorem dX10_milkBy_24 : decode cX10_milkBy 24 = .ok (.iload_n 3, 1) := by decide +kernel
theorem dX10_milkBy_25 : decode cX10_milkBy 25 = .ok (.iconst 1, 1) := by decide +kernel
theorem dX10_milkBy_26 : decode cX10_milkBy 26 = .ok (.iload_n 2, 1) := by decide +kernel
theorem dX10_milkBy_27 : decode cX10_milkBy 27 = .ok (.ishl, 1) := by decide +kernel
theorem dX10_milkBy_28 : decode cX10_milkBy 28 = .ok (.ior, 1) := by decide +kernel
theorem dX10_milkBy_29 : decode cX10_milkBy 29 = .ok (.iadd, 1) := by decide +kernel
theorem dX10_milkBy_30 : decode cX10_milkBy 30 = .ok (.iaload, 1) := by decide +kernel
theorem dX10_milkBy_31 : decode cX10_milkBy 31 = .ok (.istore 4, 2) := by decide +kernel
theorem dX10_milkBy_33 : decode cX10_milkBy 33 = .ok (.iload 4, 2) := by decide +kernel
theorem dX10_milkBy_35 : decode cX10_milkBy 35 = .ok (.bipush (-9), 2) := by decide +kernel
theorem dX10_milkBy_37 : decode cX10_milkBy 37 = .ok (.if_icmp .ne 8, 3) := by decide +kernel
theorem dX10_milkBy_40 : decode cX10_milkBy 40 = .ok (.bipush (-9), 2) := by decide +kernel
theorem dX10_milkBy_42 : decode cX10_milkBy 42 = .ok (.goto 23, 3) := by decide +kernel
theorem dX10_milkBy_45 : decode cX10_milkBy 45 = .ok (.iload 4, 2) := by decide +kernel
theorem dX10_milkBy_47 : decode cX10_milkBy 47 = .ok (.aload_n 0, 1) := by decide +kernel
theorem dX10_milkBy_48 : decode cX10_milkBy 48 = .ok (.getfield 35, 3) := by decide +kernel
theorem dX10_milkBy_51 : decode cX10_milkBy 51 = .ok (.aload_n 0, 1) := by decide +kernel
theorem dX10_milkBy_52 : decode cX10_milkBy 52 = .ok (.getfield 41, 3) := by decide +kernel
theorem dX10_milkBy_55 : decode cX10_milkBy 55 = .ok (.iload_n 1, 1) := by decide +kernel
theorem dX10_milkBy_56 : decode cX10_milkBy 56 = .ok (.iaload, 1) := by decide +kernel
theorem dX10_milkBy_57 : decode cX10_milkBy 57 = .ok (.iaload, 1) := by decide +kernel
theorem dX10_milkBy_58 : decode cX10_milkBy 58 = .ok (.aload_n 0, 1) := by decide +kernel
theorem dX10_milkBy_59 : decode cX10_milkBy 59 = .ok (.iload_n 2, 1) := by decide +kernel
theorem dX10_milkBy_60 : decode cX10_milkBy 60 = .ok (.invokevirtual 210, 3) := by decide +kernel
theorem dX10_milkBy_63 : decode cX10_milkBy 63 = .ok (.imul, 1) := by decide +kernel
theorem dX10_milkBy_64 : decode cX10_milkBy 64 = .ok (.iadd, 1) := by decide +kernel
theorem dX10_milkBy_65 : decode cX10_milkBy 65 = .ok (.ireturn, 1) := by decide +kernel
theorem dX10_herd_0 : decode cX10_herd 0 = .ok (.iload_n 1, 1) := by decide +kernel
theorem dX10_herd_1 : decode cX10_herd 1 = .ok (.iconst (-1), 1) := by decide +kernel
theorem dX10_herd_2 : decode cX10_herd 2 = .ok (.if_icmp .eq 13, 3) := by decide +kernel
theorem dX10_herd_5 : decode cX10_herd 5 = .ok (.aload_n 0, 1) := by decide +kernel
theorem dX10_herd_6 : decode cX10_herd 6 = .ok (.iload_n 1, 1) := by decide +kernel
theorem dX10_herd_7 : decode cX10_herd 7 = .ok (.invokevirtual 149, 3) := by decide +kernel
theorem dX10_herd_10 : decode cX10_herd 10 = .ok (.ifCond .ne 5, 3) := by decide +kernel
theorem dX10_herd_13 : decode cX10_herd 13 = .ok (.iconst (-1), 1) := by decide +kernel
theorem dX10_herd_14 : decode cX10_herd 14 = .ok (.ireturn, 1) := by decide +kernel
theorem dX10_herd_15 : decode cX10_herd 15 = .ok (.iconst 0, 1) := by decide +kernel
theorem dX10_herd_16 : decode cX10_herd 16 = .ok (.istore_n 2, 1) := by decide +kernel
theorem dX10_herd_17 : decode cX10_herd 17 = .ok (.iload_n 2, 1) := by decide +kernel
theorem dX10_herd_18 : decode cX10_herd 18 = .ok (.aload_n 0, 1) := by decide +kernel
theorem dX10_herd_19 : decode cX10_herd 19 = .ok (.getfield 13, 3) := by decide +kernel
theorem dX10_herd_22 : decode cX10_herd 22 = .ok (.iconst 0, 1) := by decide +kernel
theorem dX10_herd_23 : decode cX10_herd 23 = .ok (.iaload, 1) := by decide +kernel
theorem dX10_herd_24 : decode cX10_herd 24 = .ok (.invokestatic 171, 3) := by decide +kernel
theorem dX10_herd_27 : decode cX10_herd 27 = .ok (.if_icmp .gt 27, 3) := by decide +kernel
theorem dX10_herd_30 : decode cX10_herd 30 = .ok (.aload_n 0, 1) := by decide +kernel
theorem dX10_herd_31 : decode cX10_herd 31 = .ok (.getfield 78, 3) := by decide +kernel
theorem dX10_herd_34 : decode cX10_herd 34 = .ok (.sipush 256, 3) := by decide +kernel
theorem dX10_herd_37 : decode cX10_herd 37 = .ok (.aload_n 0, 1) := by decide +kernel
theorem dX10_herd_38 : decode cX10_herd 38 = .ok (.getfield 38, 3) := by decide +kernel
theorem dX10_herd_41 : decode cX10_herd 41 = .ok (.iconst 0, 1) := by decide +kernel
theorem dX10_herd_42 : decode cX10_herd 42 = .ok (.iaload, 1) := by decide +kernel
theorem dX10_herd_43 : decode cX10_herd 43 = .ok (.imul, 1) := by decide +kernel
theorem dX10_herd_44 : decode cX10_herd 44 = .ok (.iload_n 2, 1) := by decide +kernel
theorem dX10_herd_45 : decode cX10_herd 45 = .ok (.iadd, 1) := by decide +kernel
theorem dX10_herd_46 : decode cX10_herd 46 = .ok (.iconst 0, 1) := by decide +kernel
theorem dX10_herd_47 : decode cX10_herd 47 = .ok (.iastore, 1) := by decide +kernel
theorem dX10_herd_48 : decode cX10_herd 48 = .ok (.iinc 2 1, 3) := by decide +kernel
theorem dX10_herd_51 : decode cX10_herd 51 = .ok (.goto (-34), 3) := by decide +kernel
theorem dX10_herd_54 : decode cX10_herd 54 = .ok (.aload_n 0, 1) := by decide +kernel
theorem dX10_herd_55 : decode cX10_herd 55 = .ok (.getfield 38, 3) := by decide +kernel
theorem dX10_herd_58 : decode cX10_herd 58 = .ok (.iconst 0, 1) := by decide +kernel
theorem dX10_herd_59 : decode cX10_herd 59 = .ok (.iaload, 1) := by decide +kernel
theorem dX10_herd_60 : decode cX10_herd 60 = .ok (.iconst 1, 1) := by decide +kernel
theorem dX10_herd_61 : decode cX10_herd 61 = .ok (.isub, 1) := by decide +kernel
theorem dX10_herd_62 : decode cX10_herd 62 = .ok (.istore_n 2, 1) := by decide +kernel
theorem dX10_herd_63 : decode cX10_herd 63 = .ok (.iload_n 2, 1) := by decide +kernel
theorem dX10_herd_64 : decode cX10_herd 64 = .ok (.ifCond .lt 94, 3) := by decide +kernel
theorem dX10_herd_67 : decode cX10_herd 67 = .ok (.iconst 0, 1) := by decide +kernel
theorem dX10_herd_68 : decode cX10_herd 68 = .ok (.istore_n 3, 1) := by decide +kernel
theorem dX10_herd_69 : decode cX10_herd 69 = .ok (.iload_n 3, 1) := by decide +kernel
theorem dX10_herd_70 : decode cX10_herd 70 = .ok (.aload_n 0, 1) := by decide +kernel
theorem dX10_herd_71 : decode cX10_herd 71 = .ok (.getfield 13, 3) := by decide +kernel
theorem dX10_herd_74 : decode cX10_herd 74 = .ok (.iconst 0, 1) := by decide +kernel
theorem dX10_herd_75 : decode cX10_herd 75 = .ok (.iaload, 1) := by decide +kernel
theorem dX10_herd_76 : decode cX10_herd 76 = .ok (.invokestatic 171, 3) := by decide +kernel
theorem dX10_herd_79 : decode cX10_herd 79 = .ok (.if_icmp .gt 73, 3) := by decide +kernel
theorem dX10_herd_82 : decode cX10_herd 82 = .ok (.bipush (-9), 2) := by decide +kernel
theorem dX10_herd_84 : decode cX10_herd 84 = .ok (.istore 4, 2) := by decide +kernel
theorem dX10_herd_86 : decode cX10_herd 86 = .ok (.iconst 0, 1) := by decide +kernel
theorem dX10_herd_87 : decode cX10_herd 87 = .ok (.istore 5, 2) := by decide +kernel
theorem dX10_herd_89 : decode cX10_herd 89 = .ok (.iload 5, 2) := by decide +kernel
theorem dX10_herd_91 : decode cX10_herd 91 = .ok (.aload_n 0, 1) := by decide +kernel
theorem dX10_herd_92 : decode cX10_herd 92 = .ok (.getfield 13, 3) := by decide +kernel
theorem dX10_herd_95 : decode cX10_herd 95 = .ok (.iconst 0, 1) := by decide +kernel
theorem dX10_herd_96 : decode cX10_herd 96 = .ok (.iaload, 1) := by decide +kernel
theorem dX10_herd_97 : decode cX10_herd 97 = .ok (.if_icmp .ge 35, 3) := by decide +kernel
theorem dX10_herd_100 : decode cX10_herd 100 = .ok (.aload_n 0, 1) := by decide +kernel
theorem dX10_herd_101 : decode cX10_herd 101 = .ok (.iload_n 2, 1) := by decide +kernel
theorem dX10_herd_102 : decode cX10_herd 102 = .ok (.iload 5, 2) := by decide +kernel
theorem dX10_herd_104 : decode cX10_herd 104 = .ok (.iload_n 3, 1) := by decide +kernel
theorem dX10_herd_105 : decode cX10_herd 105 = .ok (.invokevirtual 213, 3) := by decide +kernel
theorem dX10_herd_108 : decode cX10_herd 108 = .ok (.istore 6, 2) := by decide +kernel
theorem dX10_herd_110 : decode cX10_herd 110 = .ok (.iload 6, 2) := by decide +kernel
theorem dX10_herd_112 : decode cX10_herd 112 = .ok (.iload 4, 2) := by decide +kernel
theorem dX10_herd_114 : decode cX10_herd 114 = .ok (.if_icmp .le 8, 3) := by decide +kernel
theorem dX10_herd_117 : decode cX10_herd 117 = .ok (.iload 6, 2) := by decide +kernel
theorem dX10_herd_119 : decode cX10_herd 119 = .ok (.goto 5, 3) := by decide +kernel
theorem dX10_herd_122 : decode cX10_herd 122 = .ok (.iload 4, 2) := by decide +kernel
theorem dX10_herd_124 : decode cX10_herd 124 = .ok (.istore 4, 2) := by decide +kernel
theorem dX10_herd_126 : decode cX10_herd 126 = .ok (.iinc 5 1, 3) := by decide +kernel
theorem dX10_herd_129 : decode cX10_herd 129 = .ok (.goto (-40), 3) := by decide +kernel
theorem dX10_herd_132 : decode cX10_herd 132 = .ok (.aload_n 0, 1) := by decide +kernel
theorem dX10_herd_133 : decode cX10_herd 133 = .ok (.getfield 78, 3) := by decide +kernel
theorem dX10_herd_136 : decode cX10_herd 136 = .ok (.sipush 256, 3) := by decide +kernel
theorem dX10_herd_139 : decode cX10_herd 139 = .ok (.iload_n 2, 1) := by decide +kernel
theorem dX10_herd_140 : decode cX10_herd 140 = .ok (.imul, 1) := by decide +kernel
theorem dX10_herd_141 : decode cX10_herd 141 = .ok (.iload_n 3, 1) := by decide +kernel
theorem dX10_herd_142 : decode cX10_herd 142 = .ok (.iadd, 1) := by decide +kernel
theorem dX10_herd_143 : decode cX10_herd 143 = .ok (.iload 4, 2) := by decide +kernel
theorem dX10_herd_145 : decode cX10_herd 145 = .ok (.iastore, 1) := by decide +kernel
theorem dX10_herd_146 : decode cX10_herd 146 = .ok (.iinc 3 1, 3) := by decide +kernel
theorem dX10_herd_149 : decode cX10_herd 149 = .ok (.goto (-80), 3) := by decide +kernel
theorem dX10_herd_152 : decode cX10_herd 152 = .ok (.iinc 2 (-1), 3) := by decide +kernel
theorem dX10_herd_155 : decode cX10_herd 155 = .ok (.goto (-92), 3) := by decide +kernel
theorem dX10_herd_158 : decode cX10_herd 158 = .ok (.iload_n 1, 1) := by decide +kernel
theorem dX10_herd_159 : decode cX10_herd 159 = .ok (.iconst (-1), 1) := by decide +kernel
theorem dX10_herd_160 : decode cX10_herd 160 = .ok (.if_icmp .eq 14, 3) := by decide +kernel
theorem dX10_herd_163 : decode cX10_herd 163 = .ok (.aload_n 0, 1) := by decide +kernel
theorem dX10_herd_164 : decode cX10_herd 164 = .ok (.getfield 78, 3) := by decide +kernel
theorem dX10_herd_167 : decode cX10_herd 167 = .ok (.iconst 0, 1) := by decide +kernel
theorem dX10_herd_168 : decode cX10_herd 168 = .ok (.iaload, 1) := by decide +kernel
theorem dX10_herd_169 : decode cX10_herd 169 = .ok (.bipush (-9), 2) := by decide +kernel
theorem dX10_herd_171 : decode cX10_herd 171 = .ok (.if_icmp .ne 10, 3) := by decide +kernel
theorem dX10_herd_174 : decode cX10_herd 174 = .ok (.aload_n 0, 1) := by decide +kernel
theorem dX10_herd_175 : decode cX10_herd 175 = .ok (.getfield 78, 3) := by decide +kernel
theorem dX10_herd_178 : decode cX10_herd 178 = .ok (.iconst 0, 1) := by decide +kernel
theorem dX10_herd_179 : decode cX10_herd 179 = .ok (.iaload, 1) := by decide +kernel
theorem dX10_herd_180 : decode cX10_herd 180 = .ok (.ireturn, 1) := by decide +kernel
theorem dX10_herd_181 : decode cX10_herd 181 = .ok (.iconst 0, 1) := by decide +kernel
theorem dX10_herd_182 : decode cX10_herd 182 = .ok (.istore_n 2, 1) := by decide +kernel
theorem dX10_herd_183 : decode cX10_herd 183 = .ok (.bipush (-9), 2) := by decide +kernel
theorem dX10_herd_185 : decode cX10_herd 185 = .ok (.istore_n 3, 1) := by decide +kernel
theorem dX10_herd_186 : decode cX10_herd 186 = .ok (.iconst 0, 1) := by decide +kernel
theorem dX10_herd_187 : decode cX10_herd 187 = .ok (.istore 4, 2) := by decide +kernel
theorem dX10_herd_189 : decode cX10_herd 189 = .ok (.iload 4, 2) := by decide +kernel
theorem dX10_herd_191 : decode cX10_herd 191 = .ok (.iload_n 1, 1) := by decide +kernel
theorem dX10_herd_192 : decode cX10_herd 192 = .ok (.if_icmp .gt 47, 3) := by decide +kernel
theorem dX10_herd_195 : decode cX10_herd 195 = .ok (.iconst 0, 1) := by decide +kernel
theorem dX10_herd_196 : decode cX10_herd 196 = .ok (.istore_n 3, 1) := by decide +kernel
theorem dX10_herd_197 : decode cX10_herd 197 = .ok (.aload_n 0, 1) := by decide +kernel
theorem dX10_herd_198 : decode cX10_herd 198 = .ok (.iload 4, 2) := by decide +kernel
theorem dX10_herd_200 : decode cX10_herd 200 = .ok (.iload_n 3, 1) := by decide +kernel
theorem dX10_herd_201 : decode cX10_herd 201 = .ok (.iload_n 2, 1) := by decide +kernel
theorem dX10_herd_202 : decode cX10_herd 202 = .ok (.invokevirtual 213, 3) := by decide +kernel
theorem dX10_herd_205 : decode cX10_herd 205 = .ok (.aload_n 0, 1) := by decide +kernel
theorem dX10_herd_206 : decode cX10_herd 206 = .ok (.getfield 78, 3) := by decide +kernel
theorem dX10_herd_209 : decode cX10_herd 209 = .ok (.sipush 256, 3) := by decide +kernel
theorem dX10_herd_212 : decode cX10_herd 212 = .ok (.iload 4, 2) := by decide +kernel
theorem dX10_herd_214 : decode cX10_herd 214 = .ok (.imul, 1) := by decide +kernel
theorem dX10_herd_215 : decode cX10_herd 215 = .ok (.iload_n 2, 1) := by decide +kernel
theorem dX10_herd_216 : decode cX10_herd 216 = .ok (.iadd, 1) := by decide +kernel
theorem dX10_herd_217 : decode cX10_herd 217 = .ok (.iaload, 1) := by decide +kernel
theorem dX10_herd_218 : decode cX10_herd 218 = .ok (.if_icmp .eq 9, 3) := by decide +kernel
theorem dX10_herd_221 : decode cX10_herd 221 = .ok (.iinc 3 1, 3) := by decide +kernel
theorem dX10_herd_224 : decode cX10_herd 224 = .ok (.goto (-27), 3) := by decide +kernel
theorem dX10_herd_227 : decode cX10_herd 227 = .ok (.iload_n 2, 1) := by decide +kernel
theorem dX10_herd_228 : decode cX10_herd 228 = .ok (.iconst 1, 1) := by decide +kernel
theorem dX10_herd_229 : decode cX10_herd 229 = .ok (.iload_n 3, 1) := by decide +kernel
theorem dX10_herd_230 : decode cX10_herd 230 = .ok (.ishl, 1) := by decide +kernel
theorem dX10_herd_231 : decode cX10_herd 231 = .ok (.ior, 1) := by decide +kernel
theorem dX10_herd_232 : decode cX10_herd 232 = .ok (.istore_n 2, 1) := by decide +kernel
theorem dX10_herd_233 : decode cX10_herd 233 = .ok (.iinc 4 1, 3) := by decide +kernel
theorem dX10_herd_236 : decode cX10_herd 236 = .ok (.goto (-47), 3) := by decide +kernel
theorem dX10_herd_239 : decode cX10_herd 239 = .ok (.iload_n 3, 1) := by decide +kernel
theorem dX10_herd_240 : decode cX10_herd 240 = .ok (.ireturn, 1) := by decide +kernel
theorem dX10_isUnheard_0 : decode cX10_isUnheard 0 = .ok (.iconst 1, 1) := by decide +kernel
theorem dX10_isUnheard_1 : decode cX10_isUnheard 1 = .ok (.iload_n 2, 1) := by decide +kernel
theorem dX10_isUnheard_2 : decode cX10_isUnheard 2 = .ok (.ishl, 1) := by decide +kernel
theorem dX10_isUnheard_3 : decode cX10_isUnheard 3 = .ok (.istore 5, 2) := by decide +kernel
theorem dX10_isUnheard_5 : decode cX10_isUnheard 5 = .ok (.iconst 0, 1) := by decide +kernel
theorem dX10_isUnheard_6 : decode cX10_isUnheard 6 = .ok (.istore 6, 2) := by decide +kernel
theorem dX10_isUnheard_8 : decode cX10_isUnheard 8 = .ok (.iload 6, 2) := by decide +kernel
theorem dX10_isUnheard_10 : decode cX10_isUnheard 10 = .ok (.bipush 8, 2) := by decide +kernel
theorem dX10_isUnheard_12 : decode cX10_isUnheard 12 = .ok (.if_icmp .ge 131, 3) := by decide +kernel
theorem dX10_isUnheard_15 : decode cX10_isUnheard 15 = .ok (.iconst 0, 1) := by decide +kernel
theorem dX10_isUnheard_16 : decode cX10_isUnheard 16 = .ok (.istore 7, 2) := by decide +kernel
theorem dX10_isUnheard_18 : decode cX10_isUnheard 18 = .ok (.iload 7, 2) := by decide +kernel
theorem dX10_isUnheard_20 : decode cX10_isUnheard 20 = .ok (.aload_n 0, 1) := by decide +kernel
theorem dX10_isUnheard_21 : decode cX10_isUnheard 21 = .ok (.getfield 17, 3) := by decide +kernel
theorem dX10_isUnheard_24 : decode cX10_isUnheard 24 = .ok (.iconst 0, 1) := by decide +kernel
theorem dX10_isUnheard_25 : decode cX10_isUnheard 25 = .ok (.iaload, 1) := by decide +kernel
theorem dX10_isUnheard_26 : decode cX10_isUnheard 26 = .ok (.if_icmp .ge 111, 3) := by decide +kernel
theorem dX10_isUnheard_29 : decode cX10_isUnheard 29 = .ok (.iload 4, 2) := by decide +kernel
theorem dX10_isUnheard_31 : decode cX10_isUnheard 31 = .ok (.iload 7, 2) := by decide +kernel
theorem dX10_isUnheard_33 : decode cX10_isUnheard 33 = .ok (.invokestatic 137, 3) := by decide +kernel
theorem dX10_isUnheard_36 : decode cX10_isUnheard 36 = .ok (.ifCond .ne 13, 3) := by decide +kernel
theorem dX10_isUnheard_39 : decode cX10_isUnheard 39 = .ok (.aload_n 0, 1) := by decide +kernel
theorem dX10_isUnheard_40 : decode cX10_isUnheard 40 = .ok (.iload_n 1, 1) := by decide +kernel
theorem dX10_isUnheard_41 : decode cX10_isUnheard 41 = .ok (.iload 7, 2) := by decide +kernel
theorem dX10_isUnheard_43 : decode cX10_isUnheard 43 = .ok (.invokevirtual 152, 3) := by decide +kernel
theorem dX10_isUnheard_46 : decode cX10_isUnheard 46 = .ok (.ifCond .ne 7, 3) := by decide +kernel
theorem dX10_isUnheard_49 : decode cX10_isUnheard 49 = .ok (.iconst 1, 1) := by decide +kernel
theorem dX10_isUnheard_50 : decode cX10_isUnheard 50 = .ok (.goto 4, 3) := by decide +kernel
theorem dX10_isUnheard_53 : decode cX10_isUnheard 53 = .ok (.iconst 0, 1) := by decide +kernel
theorem dX10_isUnheard_54 : decode cX10_isUnheard 54 = .ok (.istore 8, 2) := by decide +kernel
theorem dX10_isUnheard_56 : decode cX10_isUnheard 56 = .ok (.iload 5, 2) := by decide +kernel
theorem dX10_isUnheard_58 : decode cX10_isUnheard 58 = .ok (.aload_n 0, 1) := by decide +kernel
theorem dX10_isUnheard_59 : decode cX10_isUnheard 59 = .ok (.getfield 20, 3) := by decide +kernel
theorem dX10_isUnheard_62 : decode cX10_isUnheard 62 = .ok (.iload 7, 2) := by decide +kernel
theorem dX10_isUnheard_64 : decode cX10_isUnheard 64 = .ok (.iaload, 1) := by decide +kernel
theorem dX10_isUnheard_65 : decode cX10_isUnheard 65 = .ok (.invokestatic 137, 3) := by decide +kernel
theorem dX10_isUnheard_68 : decode cX10_isUnheard 68 = .ok (.ifCond .ne 18, 3) := by decide +kernel
theorem dX10_isUnheard_71 : decode cX10_isUnheard 71 = .ok (.iload 5, 2) := by decide +kernel
theorem dX10_isUnheard_73 : decode cX10_isUnheard 73 = .ok (.aload_n 0, 1) := by decide +kernel
theorem dX10_isUnheard_74 : decode cX10_isUnheard 74 = .ok (.getfield 23, 3) := by decide +kernel
theorem dX10_isUnheard_77 : decode cX10_isUnheard 77 = .ok (.iload 7, 2) := by decide +kernel
theorem dX10_isUnheard_79 : decode cX10_isUnheard 79 = .ok (.iaload, 1) := by decide +kernel
theorem dX10_isUnheard_80 : decode cX10_isUnheard 80 = .ok (.invokestatic 137, 3) := by decide +kernel
theorem dX10_isUnheard_83 : decode cX10_isUnheard 83 = .ok (.ifCond .eq 7, 3) := by decide +kernel
theorem dX10_isUnheard_86 : decode cX10_isUnheard 86 = .ok (.iconst 1, 1) := by decide +kernel
theorem dX10_isUnheard_87 : decode cX10_isUnheard 87 = .ok (.goto 4, 3) := by decide +kernel
theorem dX10_isUnheard_90 : decode cX10_isUnheard 90 = .ok (.iconst 0, 1) := by decide +kernel
theorem dX10_isUnheard_91 : decode cX10_isUnheard 91 = .ok (.istore 9, 2) := by decide +kernel
theorem dX10_isUnheard_93 : decode cX10_isUnheard 93 = .ok (.iload 5, 2) := by decide +kernel
theorem dX10_isUnheard_95 : decode cX10_isUnheard 95 = .ok (.iload 8, 2) := by decide +kernel
theorem dX10_isUnheard_97 : decode cX10_isUnheard 97 = .ok (.ifCond .eq 30, 3) := by decide +kernel
theorem dX10_isUnheard_100 : decode cX10_isUnheard 100 = .ok (.iload 9, 2) := by decide +kernel
theorem dX10_isUnheard_102 : decode cX10_isUnheard 102 = .ok (.ifCond .eq 25, 3) := by decide +kernel
theorem dX10_isUnheard_105 : decode cX10_isUnheard 105 = .ok (.iconst 1, 1) := by decide +kernel
theorem dX10_isUnheard_106 : decode cX10_isUnheard 106 = .ok (.aload_n 0, 1) := by decide +kernel
theorem dX10_isUnheard_107 : decode cX10_isUnheard 107 = .ok (.getfield 20, 3) := by decide +kernel
theorem dX10_isUnheard_110 : decode cX10_isUnheard 110 = .ok (.iload 7, 2) := by decide +kernel
theorem dX10_isUnheard_112 : decode cX10_isUnheard 112 = .ok (.iaload, 1) := by decide +kernel
theorem dX10_isUnheard_113 : decode cX10_isUnheard 113 = .ok (.ishl, 1) := by decide +kernel
theorem dX10_isUnheard_114 : decode cX10_isUnheard 114 = .ok (.iconst 1, 1) := by decide +kernel
theorem dX10_isUnheard_115 : decode cX10_isUnheard 115 = .ok (.aload_n 0, 1) := by decide +kernel
theorem dX10_isUnheard_116 : decode cX10_isUnheard 116 = .ok (.getfield 23, 3) := by decide +kernel
theorem dX10_isUnheard_119 : decode cX10_isUnheard 119 = .ok (.iload 7, 2) := by decide +kernel
theorem dX10_isUnheard_121 : decode cX10_isUnheard 121 = .ok (.iaload, 1) := by decide +kernel
theorem dX10_isUnheard_122 : decode cX10_isUnheard 122 = .ok (.ishl, 1) := by decide +kernel
theorem dX10_isUnheard_123 : decode cX10_isUnheard 123 = .ok (.ior, 1) := by decide +kernel
theorem dX10_isUnheard_124 : decode cX10_isUnheard 124 = .ok (.goto 4, 3) := by decide +kernel
theorem dX10_isUnheard_127 : decode cX10_isUnheard 127 = .ok (.iconst 0, 1) := by decide +kernel
theorem dX10_isUnheard_128 : decode cX10_isUnheard 128 = .ok (.ior, 1) := by decide +kernel
theorem dX10_isUnheard_129 : decode cX10_isUnheard 129 = .ok (.istore 5, 2) := by decide +kernel
theorem dX10_isUnheard_131 : decode cX10_isUnheard 131 = .ok (.iinc 7 1, 3) := by decide +kernel
theorem dX10_isUnheard_134 : decode cX10_isUnheard 134 = .ok (.goto (-116), 3) := by decide +kernel
theorem dX10_isUnheard_137 : decode cX10_isUnheard 137 = .ok (.iinc 6 1, 3) := by decide +kernel
theorem dX10_isUnheard_140 : decode cX10_isUnheard 140 = .ok (.goto (-132), 3) := by decide +kernel
theorem dX10_isUnheard_143 : decode cX10_isUnheard 143 = .ok (.iload 5, 2) := by decide +kernel
theorem dX10_isUnheard_145 : decode cX10_isUnheard 145 = .ok (.iload_n 3, 1) := by decide +kernel
theorem dX10_isUnheard_146 : decode cX10_isUnheard 146 = .ok (.invokestatic 137, 3) := by decide +kernel
theorem dX10_isUnheard_149 : decode cX10_isUnheard 149 = .ok (.ireturn, 1) := by decide +kernel
theorem dX10_frost_0 : decode cX10_frost 0 = .ok (.aload_n 0, 1) := by decide +kernel
theorem dX10_frost_1 : decode cX10_frost 1 = .ok (.iload_n 1, 1) := by decide +kernel
theorem dX10_frost_2 : decode cX10_frost 2 = .ok (.invokevirtual 145, 3) := by decide +kernel
theorem dX10_frost_5 : decode cX10_frost 5 = .ok (.ifCond .eq 51, 3) := by decide +kernel
theorem dX10_frost_8 : decode cX10_frost 8 = .ok (.aload_n 0, 1) := by decide +kernel
theorem dX10_frost_9 : decode cX10_frost 9 = .ok (.iload_n 2, 1) := by decide +kernel
theorem dX10_frost_10 : decode cX10_frost 10 = .ok (.invokevirtual 192, 3) := by decide +kernel
theorem dX10_frost_13 : decode cX10_frost 13 = .ok (.ifCond .eq 43, 3) := by decide +kernel
theorem dX10_frost_16 : decode cX10_frost 16 = .ok (.aload_n 0, 1) := by decide +kernel
theorem dX10_frost_17 : decode cX10_frost 17 = .ok (.iload_n 3, 1) := by decide +kernel
theorem dX10_frost_18 : decode cX10_frost 18 = .ok (.invokevirtual 192, 3) := by decide +kernel
theorem dX10_frost_21 : decode cX10_frost 21 = .ok (.ifCond .eq 35, 3) := by decide +kernel
theorem dX10_frost_24 : decode cX10_frost 24 = .ok (.iload 4, 2) := by decide +kernel
theorem dX10_frost_26 : decode cX10_frost 26 = .ok (.iconst 0, 1) := by decide +kernel
theorem dX10_frost_27 : decode cX10_frost 27 = .ok (.bipush 40, 2) := by decide +kernel
theorem dX10_frost_29 : decode cX10_frost 29 = .ok (.invokestatic 81, 3) := by decide +kernel
theorem dX10_frost_32 : decode cX10_frost 32 = .ok (.ifCond .eq 24, 3) := by decide +kernel
theorem dX10_frost_35 : decode cX10_frost 35 = .ok (.iload 5, 2) := by decide +kernel
theorem dX10_frost_37 : decode cX10_frost 37 = .ok (.iconst 0, 1) := by decide +kernel
theorem dX10_frost_38 : decode cX10_frost 38 = .ok (.bipush 10, 2) := by decide +kernel
theorem dX10_frost_40 : decode cX10_frost 40 = .ok (.invokestatic 81, 3) := by decide +kernel
theorem dX10_frost_43 : decode cX10_frost 43 = .ok (.ifCond .eq 13, 3) := by decide +kernel
theorem dX10_frost_46 : decode cX10_frost 46 = .ok (.iload 6, 2) := by decide +kernel
theorem dX10_frost_48 : decode cX10_frost 48 = .ok (.iconst 0, 1) := by decide +kernel
theorem dX10_frost_49 : decode cX10_frost 49 = .ok (.iconst 1, 1) := by decide +kernel
theorem dX10_frost_50 : decode cX10_frost 50 = .ok (.invokestatic 81, 3) := by decide +kernel
theorem dX10_frost_53 : decode cX10_frost 53 = .ok (.ifCond .ne 5, 3) := by decide +kernel
theorem dX10_frost_56 : decode cX10_frost 56 = .ok (.iconst (-1), 1) := by decide +kernel
theorem dX10_frost_57 : decode cX10_frost 57 = .ok (.ireturn, 1) := by decide +kernel
theorem dX10_frost_58 : decode cX10_frost 58 = .ok (.iconst 0, 1) := by decide +kernel
theorem dX10_frost_59 : decode cX10_frost 59 = .ok (.istore 7, 2) := by decide +kernel
theorem dX10_frost_61 : decode cX10_frost 61 = .ok (.iconst 1, 1) := by decide +kernel
theorem dX10_frost_62 : decode cX10_frost 62 = .ok (.istore 8, 2) := by decide +kernel
theorem dX10_frost_64 : decode cX10_frost 64 = .ok (.iconst 0, 1) := by decide +kernel
theorem dX10_frost_65 : decode cX10_frost 65 = .ok (.istore 9, 2) := by decide +kernel
theorem dX10_frost_67 : decode cX10_frost 67 = .ok (.iload 9, 2) := by decide +kernel
theorem dX10_frost_69 : decode cX10_frost 69 = .ok (.aload_n 0, 1) := by decide +kernel
theorem dX10_frost_70 : decode cX10_frost 70 = .ok (.getfield 17, 3) := by decide +kernel
theorem dX10_frost_73 : decode cX10_frost 73 = .ok (.iconst 0, 1) := by decide +kernel
theorem dX10_frost_74 : decode cX10_frost 74 = .ok (.iaload, 1) := by decide +kernel
theorem dX10_frost_75 : decode cX10_frost 75 = .ok (.if_icmp .ge 74, 3) := by decide +kernel
theorem dX10_frost_78 : decode cX10_frost 78 = .ok (.aload_n 0, 1) := by decide +kernel
theorem dX10_frost_79 : decode cX10_frost 79 = .ok (.iload 9, 2) := by decide +kernel
theorem dX10_frost_81 : decode cX10_frost 81 = .ok (.invokevirtual 174, 3) := by decide +kernel
theorem dX10_frost_84 : decode cX10_frost 84 = .ok (.ifCond .eq 22, 3) := by decide +kernel
theorem dX10_frost_87 : decode cX10_frost 87 = .ok (.aload_n 0, 1) := by decide +kernel
theorem dX10_frost_88 : decode cX10_frost 88 = .ok (.getfield 50, 3) := by decide +kernel
theorem dX10_frost_91 : decode cX10_frost 91 = .ok (.bipush 6, 2) := by decide +kernel
theorem dX10_frost_93 : decode cX10_frost 93 = .ok (.iload 9, 2) := by decide +kernel
theorem dX10_frost_95 : decode cX10_frost 95 = .ok (.iadd, 1) := by decide +kernel
theorem dX10_frost_96 : decode cX10_frost 96 = .ok (.iaload, 1) := by decide +kernel
theorem dX10_frost_97 : decode cX10_frost 97 = .ok (.iload 4, 2) := by decide +kernel
theorem dX10_frost_99 : decode cX10_frost 99 = .ok (.if_icmp .lt 7, 3) := by decide +kernel
theorem dX10_frost_102 : decode cX10_frost 102 = .ok (.iconst 1, 1) := by decide +kernel
theorem dX10_frost_103 : decode cX10_frost 103 = .ok (.goto 4, 3) := by decide +kernel
theorem dX10_frost_106 : decode cX10_frost 106 = .ok (.iconst 0, 1) := by decide +kernel
theorem dX10_frost_107 : decode cX10_frost 107 = .ok (.istore 10, 2) := by decide +kernel
theorem dX10_frost_109 : decode cX10_frost 109 = .ok (.iload 7, 2) := by decide +kernel
theorem dX10_frost_111 : decode cX10_frost 111 = .ok (.iload 10, 2) := by decide +kernel
theorem dX10_frost_113 : decode cX10_frost 113 = .ok (.ifCond .eq 10, 3) := by decide +kernel
theorem dX10_frost_116 : decode cX10_frost 116 = .ok (.iconst 1, 1) := by decide +kernel
theorem dX10_frost_117 : decode cX10_frost 117 = .ok (.iload 9, 2) := by decide +kernel
theorem dX10_frost_119 : decode cX10_frost 119 = .ok (.ishl, 1) := by decide +kernel
theorem dX10_frost_120 : decode cX10_frost 120 = .ok (.goto 4, 3) := by decide +kernel
theorem dX10_frost_123 : decode cX10_frost 123 = .ok (.iconst 0, 1) := by decide +kernel
theorem dX10_frost_124 : decode cX10_frost 124 = .ok (.ior, 1) := by decide +kernel
theorem dX10_frost_125 : decode cX10_frost 125 = .ok (.istore 7, 2) := by decide +kernel
theorem dX10_frost_127 : decode cX10_frost 127 = .ok (.iload 8, 2) := by decide +kernel
theorem dX10_frost_129 : decode cX10_frost 129 = .ok (.iload 10, 2) := by decide +kernel
theorem dX10_frost_131 : decode cX10_frost 131 = .ok (.ifCond .eq 8, 3) := by decide +kernel
theorem dX10_frost_134 : decode cX10_frost 134 = .ok (.bipush 10, 2) := by decide +kernel
theorem dX10_frost_136 : decode cX10_frost 136 = .ok (.goto 4, 3) := by decide +kernel
theorem dX10_frost_139 : decode cX10_frost 139 = .ok (.iconst 1, 1) := by decide +kernel
theorem dX10_frost_140 : decode cX10_frost 140 = .ok (.imul, 1) := by decide +kernel
theorem dX10_frost_141 : decode cX10_frost 141 = .ok (.istore 8, 2) := by decide +kernel
theorem dX10_frost_143 : decode cX10_frost 143 = .ok (.iinc 9 1, 3) := by decide +kernel
theorem dX10_frost_146 : decode cX10_frost 146 = .ok (.goto (-79), 3) := by decide +kernel
theorem dX10_frost_149 : decode cX10_frost 149 = .ok (.iconst 0, 1) := by decide +kernel
theorem dX10_frost_150 : decode cX10_frost 150 = .ok (.istore 9, 2) := by decide +kernel
theorem dX10_frost_152 : decode cX10_frost 152 = .ok (.iconst 0, 1) := by decide +kernel
theorem dX10_frost_153 : decode cX10_frost 153 = .ok (.istore 10, 2) := by decide +kernel
theorem dX10_frost_155 : decode cX10_frost 155 = .ok (.iload 10, 2) := by decide +kernel
theorem dX10_frost_157 : decode cX10_frost 157 = .ok (.iload 7, 2) := by decide +kernel
theorem dX10_frost_159 : decode cX10_frost 159 = .ok (.if_icmp .gt 100, 3) := by decide +kernel
theorem dX10_frost_162 : decode cX10_frost 162 = .ok (.iload 10, 2) := by decide +kernel
theorem dX10_frost_164 : decode cX10_frost 164 = .ok (.iload 7, 2) := by decide +kernel
theorem dX10_frost_166 : decode cX10_frost 166 = .ok (.iconst (-1), 1) := by decide +kernel
theorem dX10_frost_167 : decode cX10_frost 167 = .ok (.ixor, 1) := by decide +kernel
theorem dX10_frost_168 : decode cX10_frost 168 = .ok (.iand, 1) := by decide +kernel
theorem dX10_frost_169 : decode cX10_frost 169 = .ok (.ifCond .ne 84, 3) := by decide +kernel
theorem dX10_frost_172 : decode cX10_frost 172 = .ok (.aload_n 0, 1) := by decide +kernel
theorem dX10_frost_173 : decode cX10_frost 173 = .ok (.iload_n 1, 1) := by decide +kernel
theorem dX10_frost_174 : decode cX10_frost 174 = .ok (.iload_n 2, 1) := by decide +kernel
theorem dX10_frost_175 : decode cX10_frost 175 = .ok (.iload_n 3, 1) := by decide +kernel
theorem dX10_frost_176 : decode cX10_frost 176 = .ok (.iload 10, 2) := by decide +kernel
theorem dX10_frost_178 : decode cX10_frost 178 = .ok (.invokevirtual 217, 3) := by decide +kernel
theorem dX10_frost_181 : decode cX10_frost 181 = .ok (.ifCond .eq 72, 3) := by decide +kernel
theorem dX10_frost_184 : decode cX10_frost 184 = .ok (.iconst 1, 1) := by decide +kernel
theorem dX10_frost_185 : decode cX10_frost 185 = .ok (.istore 11, 2) := by decide +kernel
theorem dX10_frost_187 : decode cX10_frost 187 = .ok (.iconst 0, 1) := by decide +kernel
theorem dX10_frost_188 : decode cX10_frost 188 = .ok (.istore 12, 2) := by decide +kernel
theorem dX10_frost_190 : decode cX10_frost 190 = .ok (.iload 12, 2) := by decide +kernel
theorem dX10_frost_192 : decode cX10_frost 192 = .ok (.aload_n 0, 1) := by decide +kernel
theorem dX10_frost_193 : decode cX10_frost 193 = .ok (.getfield 17, 3) := by decide +kernel
theorem dX10_frost_196 : decode cX10_frost 196 = .ok (.iconst 0, 1) := by decide +kernel
theorem dX10_frost_197 : decode cX10_frost 197 = .ok (.iaload, 1) := by decide +kernel
theorem dX10_frost_198 : decode cX10_frost 198 = .ok (.if_icmp .ge 48, 3) := by decide +kernel
theorem dX10_frost_201 : decode cX10_frost 201 = .ok (.iload 11, 2) := by decide +kernel
theorem dX10_frost_203 : decode cX10_frost 203 = .ok (.iload 7, 2) := by decide +kernel
theorem dX10_frost_205 : decode cX10_frost 205 = .ok (.iload 12, 2) := by decide +kernel
theorem dX10_frost_207 : decode cX10_frost 207 = .ok (.invokestatic 137, 3) := by decide +kernel
theorem dX10_frost_210 : decode cX10_frost 210 = .ok (.ifCond .ne 7, 3) := by decide +kernel
theorem dX10_frost_213 : decode cX10_frost 213 = .ok (.iconst 1, 1) := by decide +kernel
theorem dX10_frost_214 : decode cX10_frost 214 = .ok (.goto 23, 3) := by decide +kernel
theorem dX10_frost_217 : decode cX10_frost 217 = .ok (.iload 10, 2) := by decide +kernel
theorem dX10_frost_219 : decode cX10_frost 219 = .ok (.iload 12, 2) := by decide +kernel
theorem dX10_frost_221 : decode cX10_frost 221 = .ok (.invokestatic 137, 3) := by decide +kernel
theorem dX10_frost_224 : decode cX10_frost 224 = .ok (.ifCond .eq 8, 3) := by decide +kernel
theorem dX10_frost_227 : decode cX10_frost 227 = .ok (.iload 5, 2) := by decide +kernel
theorem dX10_frost_229 : decode cX10_frost 229 = .ok (.goto 8, 3) := by decide +kernel
theorem dX10_frost_232 : decode cX10_frost 232 = .ok (.bipush 10, 2) := by decide +kernel
theorem dX10_frost_234 : decode cX10_frost 234 = .ok (.iload 5, 2) := by decide +kernel
theorem dX10_frost_236 : decode cX10_frost 236 = .ok (.isub, 1) := by decide +kernel
theorem dX10_frost_237 : decode cX10_frost 237 = .ok (.imul, 1) := by decide +kernel
theorem dX10_frost_238 : decode cX10_frost 238 = .ok (.istore 11, 2) := by decide +kernel
theorem dX10_frost_240 : decode cX10_frost 240 = .ok (.iinc 12 1, 3) := by decide +kernel
theorem dX10_frost_243 : decode cX10_frost 243 = .ok (.goto (-53), 3) := by decide +kernel
theorem dX10_frost_246 : decode cX10_frost 246 = .ok (.iload 9, 2) := by decide +kernel
theorem dX10_frost_248 : decode cX10_frost 248 = .ok (.iload 11, 2) := by decide +kernel
theorem dX10_frost_250 : decode cX10_frost 250 = .ok (.iadd, 1) := by decide +kernel
theorem dX10_frost_251 : decode cX10_frost 251 = .ok (.istore 9, 2) := by decide +kernel
theorem dX10_frost_253 : decode cX10_frost 253 = .ok (.iinc 10 1, 3) := by decide +kernel
theorem dX10_frost_256 : decode cX10_frost 256 = .ok (.goto (-101), 3) := by decide +kernel
theorem dX10_frost_259 : decode cX10_frost 259 = .ok (.iload 9, 2) := by decide +kernel
theorem dX10_frost_261 : decode cX10_frost 261 = .ok (.istore 10, 2) := by decide +kernel
theorem dX10_frost_263 : decode cX10_frost 263 = .ok (.iload 8, 2) := by decide +kernel
theorem dX10_frost_265 : decode cX10_frost 265 = .ok (.istore 11, 2) := by decide +kernel
theorem dX10_frost_267 : decode cX10_frost 267 = .ok (.iload 11, 2) := by decide +kernel
theorem dX10_frost_269 : decode cX10_frost 269 = .ok (.ifCond .eq 21, 3) := by decide +kernel
theorem dX10_frost_272 : decode cX10_frost 272 = .ok (.iload 10, 2) := by decide +kernel
theorem dX10_frost_274 : decode cX10_frost 274 = .ok (.iload 11, 2) := by decide +kernel
theorem dX10_frost_276 : decode cX10_frost 276 = .ok (.irem, 1) := by decide +kernel
theorem dX10_frost_277 : decode cX10_frost 277 = .ok (.istore 12, 2) := by decide +kernel
theorem dX10_frost_279 : decode cX10_frost 279 = .ok (.iload 11, 2) := by decide +kernel
theorem dX10_frost_281 : decode cX10_frost 281 = .ok (.istore 10, 2) := by decide +kernel
theorem dX10_frost_283 : decode cX10_frost 283 = .ok (.iload 12, 2) := by decide +kernel
theorem dX10_frost_285 : decode cX10_frost 285 = .ok (.istore 11, 2) := by decide +kernel
theorem dX10_frost_287 : decode cX10_frost 287 = .ok (.goto (-20), 3) := by decide +kernel
theorem dX10_frost_290 : decode cX10_frost 290 = .ok (.iload 6, 2) := by decide +kernel
theorem dX10_frost_292 : decode cX10_frost 292 = .ok (.ifCond .ne 11, 3) := by decide +kernel
theorem dX10_frost_295 : decode cX10_frost 295 = .ok (.iload 9, 2) := by decide +kernel
theorem dX10_frost_297 : decode cX10_frost 297 = .ok (.iload 10, 2) := by decide +kernel
theorem dX10_frost_299 : decode cX10_frost 299 = .ok (.idiv, 1) := by decide +kernel
theorem dX10_frost_300 : decode cX10_frost 300 = .ok (.goto 8, 3) := by decide +kernel
theorem dX10_frost_303 : decode cX10_frost 303 = .ok (.iload 8, 2) := by decide +kernel
theorem dX10_frost_305 : decode cX10_frost 305 = .ok (.iload 10, 2) := by decide +kernel
theorem dX10_frost_307 : decode cX10_frost 307 = .ok (.idiv, 1) := by decide +kernel
theorem dX10_frost_308 : decode cX10_frost 308 = .ok (.ireturn, 1) := by decide +kernel
theorem dX10_bodiesOf_0 : decode cX10_bodiesOf 0 = .ok (.iload_n 0, 1) := by decide +kernel
theorem dX10_bodiesOf_1 : decode cX10_bodiesOf 1 = .ok (.tableswitch 47 0 4 #[35, 37, 39, 41, 44], 35) := by decide +kernel
theorem dX10_bodiesOf_36 : decode cX10_bodiesOf 36 = .ok (.iconst 1, 1) := by decide +kernel
theorem dX10_bodiesOf_37 : decode cX10_bodiesOf 37 = .ok (.ireturn, 1) := by decide +kernel
theorem dX10_bodiesOf_38 : decode cX10_bodiesOf 38 = .ok (.iconst 3, 1) := by decide +kernel
theorem dX10_bodiesOf_39 : decode cX10_bodiesOf 39 = .ok (.ireturn, 1) := by decide +kernel
theorem dX10_bodiesOf_40 : decode cX10_bodiesOf 40 = .ok (.iconst 5, 1) := by decide +kernel
theorem dX10_bodiesOf_41 : decode cX10_bodiesOf 41 = .ok (.ireturn, 1) := by decide +kernel
theorem dX10_bodiesOf_42 : decode cX10_bodiesOf 42 = .ok (.bipush 11, 2) := by decide +kernel
theorem dX10_bodiesOf_44 : decode cX10_bodiesOf 44 = .ok (.ireturn, 1) := by decide +kernel
theorem dX10_bodiesOf_45 : decode cX10_bodiesOf 45 = .ok (.bipush 21, 2) := by decide +kernel
theorem dX10_bodiesOf_47 : decode cX10_bodiesOf 47 = .ok (.ireturn, 1) := by decide +kernel
theorem dX10_bodiesOf_48 : decode cX10_bodiesOf 48 = .ok (.bipush 33, 2) := by decide +kernel
theorem dX10_bodiesOf_50 : decode cX10_bodiesOf 50 = .ok (.ireturn, 1) := by decide +kernel
theorem dX10_mark_0 : decode cX10_mark 0 = .ok (.iload_n 1, 1) := by decide +kernel
theorem dX10_mark_1 : decode cX10_mark 1 = .ok (.iconst 0, 1) := by decide +kernel
theorem dX10_mark_2 : decode cX10_mark 2 = .ok (.iconst 5, 1) := by decide +kernel
theorem dX10_mark_3 : decode cX10_mark 3 = .ok (.invokestatic 81, 3) := by decide +kernel
theorem dX10_mark_6 : decode cX10_mark 6 = .ok (.ifCond .eq 11, 3) := by decide +kernel
theorem dX10_mark_9 : decode cX10_mark 9 = .ok (.aload_n 0, 1) := by decide +kernel
theorem dX10_mark_10 : decode cX10_mark 10 = .ok (.iload_n 2, 1) := by decide +kernel
theorem dX10_mark_11 : decode cX10_mark 11 = .ok (.invokevirtual 141, 3) := by decide +kernel
theorem dX10_mark_14 : decode cX10_mark 14 = .ok (.ifCond .ne 6, 3) := by decide +kernel
theorem dX10_mark_17 : decode cX10_mark 17 = .ok (.ldc 148, 2) := by decide +kernel
theorem dX10_mark_19 : decode cX10_mark 19 = .ok (.ireturn, 1) := by decide +kernel
theorem dX10_mark_20 : decode cX10_mark 20 = .ok (.iload_n 1, 1) := by decide +kernel
theorem dX10_mark_21 : decode cX10_mark 21 = .ok (.invokestatic 221, 3) := by decide +kernel
theorem dX10_mark_24 : decode cX10_mark 24 = .ok (.istore_n 3, 1) := by decide +kernel
theorem dX10_mark_25 : decode cX10_mark 25 = .ok (.lconst 1, 1) := by decide +kernel
theorem dX10_mark_26 : decode cX10_mark 26 = .ok (.lstore 4, 2) := by decide +kernel
theorem dX10_mark_28 : decode cX10_mark 28 = .ok (.iconst 0, 1) := by decide +kernel
theorem dX10_mark_29 : decode cX10_mark 29 = .ok (.istore 6, 2) := by decide +kernel
theorem dX10_mark_31 : decode cX10_mark 31 = .ok (.iload 6, 2) := by decide +kernel
theorem dX10_mark_33 : decode cX10_mark 33 = .ok (.bipush 6, 2) := by decide +kernel
theorem dX10_mark_35 : decode cX10_mark 35 = .ok (.if_icmp .ge 41, 3) := by decide +kernel
theorem dX10_mark_38 : decode cX10_mark 38 = .ok (.aload_n 0, 1) := by decide +kernel
theorem dX10_mark_39 : decode cX10_mark 39 = .ok (.dup, 1) := by decide +kernel
theorem dX10_mark_40 : decode cX10_mark 40 = .ok (.getfield 224, 3) := by decide +kernel
theorem dX10_mark_43 : decode cX10_mark 43 = .ok (.iload_n 3, 1) := by decide +kernel
theorem dX10_mark_44 : decode cX10_mark 44 = .ok (.iload 6, 2) := by decide +kernel
theorem dX10_mark_46 : decode cX10_mark 46 = .ok (.invokestatic 137, 3) := by decide +kernel
theorem dX10_mark_49 : decode cX10_mark 49 = .ok (.ifCond .eq 8, 3) := by decide +kernel
theorem dX10_mark_52 : decode cX10_mark 52 = .ok (.lload 4, 2) := by decide +kernel
theorem dX10_mark_54 : decode cX10_mark 54 = .ok (.goto 4, 3) := by decide +kernel
theorem dX10_mark_57 : decode cX10_mark 57 = .ok (.lconst 0, 1) := by decide +kernel
theorem dX10_mark_58 : decode cX10_mark 58 = .ok (.ladd, 1) := by decide +kernel
theorem dX10_mark_59 : decode cX10_mark 59 = .ok (.putfield 224, 3) := by decide +kernel
theorem dX10_mark_62 : decode cX10_mark 62 = .ok (.lload 4, 2) := by decide +kernel
theorem dX10_mark_64 : decode cX10_mark 64 = .ok (.ldc2_w 228, 3) := by decide +kernel
theorem dX10_mark_67 : decode cX10_mark 67 = .ok (.lmul, 1) := by decide +kernel
theorem dX10_mark_68 : decode cX10_mark 68 = .ok (.lstore 4, 2) := by decide +kernel
theorem dX10_mark_70 : decode cX10_mark 70 = .ok (.iinc 6 1, 3) := by decide +kernel
theorem dX10_mark_73 : decode cX10_mark 73 = .ok (.goto (-42), 3) := by decide +kernel
theorem dX10_mark_76 : decode cX10_mark 76 = .ok (.aload_n 0, 1) := by decide +kernel
theorem dX10_mark_77 : decode cX10_mark 77 = .ok (.getfield 50, 3) := by decide +kernel
theorem dX10_mark_80 : decode cX10_mark 80 = .ok (.bipush 6, 2) := by decide +kernel
theorem dX10_mark_82 : decode cX10_mark 82 = .ok (.iload_n 2, 1) := by decide +kernel
theorem dX10_mark_83 : decode cX10_mark 83 = .ok (.iadd, 1) := by decide +kernel
theorem dX10_mark_84 : decode cX10_mark 84 = .ok (.iaload, 1) := by decide +kernel
theorem dX10_mark_85 : decode cX10_mark 85 = .ok (.istore 6, 2) := by decide +kernel
theorem dX10_mark_87 : decode cX10_mark 87 = .ok (.iload 6, 2) := by decide +kernel
theorem dX10_mark_89 : decode cX10_mark 89 = .ok (.iload_n 3, 1) := by decide +kernel
theorem dX10_mark_90 : decode cX10_mark 90 = .ok (.iconst 1, 1) := by decide +kernel
theorem dX10_mark_91 : decode cX10_mark 91 = .ok (.invokestatic 137, 3) := by decide +kernel
theorem dX10_mark_94 : decode cX10_mark 94 = .ok (.ifCond .eq 13, 3) := by decide +kernel
theorem dX10_mark_97 : decode cX10_mark 97 = .ok (.aload_n 0, 1) := by decide +kernel
theorem dX10_mark_98 : decode cX10_mark 98 = .ok (.getfield 50, 3) := by decide +kernel
theorem dX10_mark_101 : decode cX10_mark 101 = .ok (.bipush 16, 2) := by decide +kernel
theorem dX10_mark_103 : decode cX10_mark 103 = .ok (.iaload, 1) := by decide +kernel
theorem dX10_mark_104 : decode cX10_mark 104 = .ok (.goto 4, 3) := by decide +kernel
theorem dX10_mark_107 : decode cX10_mark 107 = .ok (.iconst 0, 1) := by decide +kernel
theorem dX10_mark_108 : decode cX10_mark 108 = .ok (.iadd, 1) := by decide +kernel
theorem dX10_mark_109 : decode cX10_mark 109 = .ok (.istore 6, 2) := by decide +kernel
theorem dX10_mark_111 : decode cX10_mark 111 = .ok (.iload 6, 2) := by decide +kernel
theorem dX10_mark_113 : decode cX10_mark 113 = .ok (.iload_n 3, 1) := by decide +kernel
theorem dX10_mark_114 : decode cX10_mark 114 = .ok (.iconst 2, 1) := by decide +kernel
theorem dX10_mark_115 : decode cX10_mark 115 = .ok (.invokestatic 137, 3) := by decide +kernel
theorem dX10_mark_118 : decode cX10_mark 118 = .ok (.ifCond .eq 16, 3) := by decide +kernel
theorem dX10_mark_121 : decode cX10_mark 121 = .ok (.aload_n 0, 1) := by decide +kernel
theorem dX10_mark_122 : decode cX10_mark 122 = .ok (.aload_n 0, 1) := by decide +kernel
theorem dX10_mark_123 : decode cX10_mark 123 = .ok (.getfield 20, 3) := by decide +kernel
theorem dX10_mark_126 : decode cX10_mark 126 = .ok (.iload_n 2, 1) := by decide +kernel
theorem dX10_mark_127 : decode cX10_mark 127 = .ok (.iaload, 1) := by decide +kernel
theorem dX10_mark_128 : decode cX10_mark 128 = .ok (.invokevirtual 210, 3) := by decide +kernel
theorem dX10_mark_131 : decode cX10_mark 131 = .ok (.goto 4, 3) := by decide +kernel
theorem dX10_mark_134 : decode cX10_mark 134 = .ok (.iconst 0, 1) := by decide +kernel
theorem dX10_mark_135 : decode cX10_mark 135 = .ok (.isub, 1) := by decide +kernel
theorem dX10_mark_136 : decode cX10_mark 136 = .ok (.istore 6, 2) := by decide +kernel
theorem dX10_mark_138 : decode cX10_mark 138 = .ok (.iload_n 3, 1) := by decide +kernel
theorem dX10_mark_139 : decode cX10_mark 139 = .ok (.iconst 3, 1) := by decide +kernel
theorem dX10_mark_140 : decode cX10_mark 140 = .ok (.invokestatic 137, 3) := by decide +kernel
theorem dX10_mark_143 : decode cX10_mark 143 = .ok (.ifCond .eq 10, 3) := by decide +kernel
theorem dX10_mark_146 : decode cX10_mark 146 = .ok (.iconst 2, 1) := by decide +kernel
theorem dX10_mark_147 : decode cX10_mark 147 = .ok (.iload 6, 2) := by decide +kernel
theorem dX10_mark_149 : decode cX10_mark 149 = .ok (.imul, 1) := by decide +kernel
theorem dX10_mark_150 : decode cX10_mark 150 = .ok (.goto 5, 3) := by decide +kernel
theorem dX10_mark_153 : decode cX10_mark 153 = .ok (.iload 6, 2) := by decide +kernel
theorem dX10_mark_155 : decode cX10_mark 155 = .ok (.istore 6, 2) := by decide +kernel
theorem dX10_mark_157 : decode cX10_mark 157 = .ok (.iload 6, 2) := by decide +kernel
theorem dX10_mark_159 : decode cX10_mark 159 = .ok (.iload_n 3, 1) := by decide +kernel
theorem dX10_mark_160 : decode cX10_mark 160 = .ok (.iconst 4, 1) := by decide +kernel
theorem dX10_mark_161 : decode cX10_mark 161 = .ok (.invokestatic 137, 3) := by decide +kernel
theorem dX10_mark_164 : decode cX10_mark 164 = .ok (.ifCond .eq 7, 3) := by decide +kernel
theorem dX10_mark_167 : decode cX10_mark 167 = .ok (.iload_n 2, 1) := by decide +kernel
theorem dX10_mark_168 : decode cX10_mark 168 = .ok (.goto 4, 3) := by decide +kernel
theorem dX10_mark_171 : decode cX10_mark 171 = .ok (.iconst 0, 1) := by decide +kernel
theorem dX10_mark_172 : decode cX10_mark 172 = .ok (.iadd, 1) := by decide +kernel
theorem dX10_mark_173 : decode cX10_mark 173 = .ok (.istore 6, 2) := by decide +kernel
theorem dX10_mark_175 : decode cX10_mark 175 = .ok (.iload 6, 2) := by decide +kernel
theorem dX10_mark_177 : decode cX10_mark 177 = .ok (.iload_n 3, 1) := by decide +kernel
theorem dX10_mark_178 : decode cX10_mark 178 = .ok (.iconst 5, 1) := by decide +kernel
theorem dX10_mark_179 : decode cX10_mark 179 = .ok (.invokestatic 137, 3) := by decide +kernel
theorem dX10_mark_182 : decode cX10_mark 182 = .ok (.ifCond .eq 13, 3) := by decide +kernel
theorem dX10_mark_185 : decode cX10_mark 185 = .ok (.aload_n 0, 1) := by decide +kernel
theorem dX10_mark_186 : decode cX10_mark 186 = .ok (.getfield 50, 3) := by decide +kernel
theorem dX10_mark_189 : decode cX10_mark 189 = .ok (.bipush 17, 2) := by decide +kernel
theorem dX10_mark_191 : decode cX10_mark 191 = .ok (.iaload, 1) := by decide +kernel
theorem dX10_mark_192 : decode cX10_mark 192 = .ok (.goto 4, 3) := by decide +kernel
theorem dX10_mark_195 : decode cX10_mark 195 = .ok (.iconst 0, 1) := by decide +kernel
theorem dX10_mark_196 : decode cX10_mark 196 = .ok (.iadd, 1) := by decide +kernel
theorem dX10_mark_197 : decode cX10_mark 197 = .ok (.istore 6, 2) := by decide +kernel
theorem dX10_mark_199 : decode cX10_mark 199 = .ok (.iload 6, 2) := by decide +kernel
theorem dX10_mark_201 : decode cX10_mark 201 = .ok (.ireturn, 1) := by decide +kernel
theorem dX10_trace_0 : decode cX10_trace 0 = .ok (.aload_n 0, 1) := by decide +kernel
theorem dX10_trace_1 : decode cX10_trace 1 = .ok (.getfield 224, 3) := by decide +kernel
theorem dX10_trace_4 : decode cX10_trace 4 = .ok (.lreturn, 1) := by decide +kernel
theorem dX10_keep_0 : decode cX10_keep 0 = .ok (.iload_n 1, 1) := by decide +kernel
theorem dX10_keep_1 : decode cX10_keep 1 = .ok (.iconst 0, 1) := by decide +kernel
theorem dX10_keep_2 : decode cX10_keep 2 = .ok (.iconst 1, 1) := by decide +kernel
theorem dX10_keep_3 : decode cX10_keep 3 = .ok (.invokestatic 81, 3) := by decide +kernel
theorem dX10_keep_6 : decode cX10_keep 6 = .ok (.ifCond .ne 5, 3) := by decide +kernel
theorem dX10_keep_9 : decode cX10_keep 9 = .ok (.iconst (-1), 1) := by decide +kernel
theorem dX10_keep_10 : decode cX10_keep 10 = .ok (.ireturn, 1) := by decide +kernel
theorem dX10_keep_11 : decode cX10_keep 11 = .ok (.iconst 0, 1) := by decide +kernel
theorem dX10_keep_12 : decode cX10_keep 12 = .ok (.istore_n 2, 1) := by decide +kernel
theorem dX10_keep_13 : decode cX10_keep 13 = .ok (.iload_n 2, 1) := by decide +kernel
theorem dX10_keep_14 : decode cX10_keep 14 = .ok (.bipush 30, 2) := by decide +kernel
theorem dX10_keep_16 : decode cX10_keep 16 = .ok (.if_icmp .ge 26, 3) := by decide +kernel
theorem dX10_keep_19 : decode cX10_keep 19 = .ok (.aload_n 0, 1) := by decide +kernel
theorem dX10_keep_20 : decode cX10_keep 20 = .ok (.getfield 59, 3) := by decide +kernel
theorem dX10_keep_23 : decode cX10_keep 23 = .ok (.bipush 30, 2) := by decide +kernel
theorem dX10_keep_25 : decode cX10_keep 25 = .ok (.iload_n 1, 1) := by decide +kernel
theorem dX10_keep_26 : decode cX10_keep 26 = .ok (.imul, 1) := by decide +kernel
theorem dX10_keep_27 : decode cX10_keep 27 = .ok (.iload_n 2, 1) := by decide +kernel
theorem dX10_keep_28 : decode cX10_keep 28 = .ok (.iadd, 1) := by decide +kernel
theorem dX10_keep_29 : decode cX10_keep 29 = .ok (.aload_n 0, 1) := by decide +kernel
theorem dX10_keep_30 : decode cX10_keep 30 = .ok (.getfield 50, 3) := by decide +kernel
theorem dX10_keep_33 : decode cX10_keep 33 = .ok (.iload_n 2, 1) := by decide +kernel
theorem dX10_keep_34 : decode cX10_keep 34 = .ok (.iaload, 1) := by decide +kernel
theorem dX10_keep_35 : decode cX10_keep 35 = .ok (.iastore, 1) := by decide +kernel
theorem dX10_keep_36 : decode cX10_keep 36 = .ok (.iinc 2 1, 3) := by decide +kernel
theorem dX10_keep_39 : decode cX10_keep 39 = .ok (.goto (-26), 3) := by decide +kernel
theorem dX10_keep_42 : decode cX10_keep 42 = .ok (.iconst 0, 1) := by decide +kernel
theorem dX10_keep_43 : decode cX10_keep 43 = .ok (.istore_n 2, 1) := by decide +kernel
theorem dX10_keep_44 : decode cX10_keep 44 = .ok (.iload_n 2, 1) := by decide +kernel
theorem dX10_keep_45 : decode cX10_keep 45 = .ok (.sipush 300, 3) := by decide +kernel
theorem dX10_keep_48 : decode cX10_keep 48 = .ok (.if_icmp .ge 29, 3) := by decide +kernel
theorem dX10_keep_51 : decode cX10_keep 51 = .ok (.aload_n 0, 1) := by decide +kernel
theorem dX10_keep_52 : decode cX10_keep 52 = .ok (.getfield 56, 3) := by decide +kernel
theorem dX10_keep_55 : decode cX10_keep 55 = .ok (.sipush 300, 3) := by decide +kernel
theorem dX10_keep_58 : decode cX10_keep 58 = .ok (.iconst 1, 1) := by decide +kernel
theorem dX10_keep_59 : decode cX10_keep 59 = .ok (.iload_n 1, 1) := by decide +kernel
theorem dX10_keep_60 : decode cX10_keep 60 = .ok (.iadd, 1) := by decide +kernel
theorem dX10_keep_61 : decode cX10_keep 61 = .ok (.imul, 1) := by decide +kernel
theorem dX10_keep_62 : decode cX10_keep 62 = .ok (.iload_n 2, 1) := by decide +kernel
theorem dX10_keep_63 : decode cX10_keep 63 = .ok (.iadd, 1) := by decide +kernel
theorem dX10_keep_64 : decode cX10_keep 64 = .ok (.aload_n 0, 1) := by decide +kernel
theorem dX10_keep_65 : decode cX10_keep 65 = .ok (.getfield 56, 3) := by decide +kernel
theorem dX10_keep_68 : decode cX10_keep 68 = .ok (.iload_n 2, 1) := by decide +kernel
theorem dX10_keep_69 : decode cX10_keep 69 = .ok (.iaload, 1) := by decide +kernel
theorem dX10_keep_70 : decode cX10_keep 70 = .ok (.iastore, 1) := by decide +kernel
theorem dX10_keep_71 : decode cX10_keep 71 = .ok (.iinc 2 1, 3) := by decide +kernel
theorem dX10_keep_74 : decode cX10_keep 74 = .ok (.goto (-30), 3) := by decide +kernel
theorem dX10_keep_77 : decode cX10_keep 77 = .ok (.aload_n 0, 1) := by decide +kernel
theorem dX10_keep_78 : decode cX10_keep 78 = .ok (.getfield 53, 3) := by decide +kernel
theorem dX10_keep_81 : decode cX10_keep 81 = .ok (.iconst 1, 1) := by decide +kernel
theorem dX10_keep_82 : decode cX10_keep 82 = .ok (.iload_n 1, 1) := by decide +kernel
theorem dX10_keep_83 : decode cX10_keep 83 = .ok (.iadd, 1) := by decide +kernel
theorem dX10_keep_84 : decode cX10_keep 84 = .ok (.aload_n 0, 1) := by decide +kernel
theorem dX10_keep_85 : decode cX10_keep 85 = .ok (.getfield 53, 3) := by decide +kernel
theorem dX10_keep_88 : decode cX10_keep 88 = .ok (.iconst 0, 1) := by decide +kernel
theorem dX10_keep_89 : decode cX10_keep 89 = .ok (.iaload, 1) := by decide +kernel
theorem dX10_keep_90 : decode cX10_keep 90 = .ok (.iastore, 1) := by decide +kernel
theorem dX10_keep_91 : decode cX10_keep 91 = .ok (.aload_n 0, 1) := by decide +kernel
theorem dX10_keep_92 : decode cX10_keep 92 = .ok (.getfield 62, 3) := by decide +kernel
theorem dX10_keep_95 : decode cX10_keep 95 = .ok (.iload_n 1, 1) := by decide +kernel
theorem dX10_keep_96 : decode cX10_keep 96 = .ok (.iconst 1, 1) := by decide +kernel
theorem dX10_keep_97 : decode cX10_keep 97 = .ok (.bastore, 1) := by decide +kernel
theorem dX10_keep_98 : decode cX10_keep 98 = .ok (.aload_n 0, 1) := by decide +kernel
theorem dX10_keep_99 : decode cX10_keep 99 = .ok (.getfield 50, 3) := by decide +kernel
theorem dX10_keep_102 : decode cX10_keep 102 = .ok (.bipush 16, 2) := by decide +kernel
theorem dX10_keep_104 : decode cX10_keep 104 = .ok (.iaload, 1) := by decide +kernel
theorem dX10_keep_105 : decode cX10_keep 105 = .ok (.ireturn, 1) := by decide +kernel
theorem dX10_back_0 : decode cX10_back 0 = .ok (.iload_n 1, 1) := by decide +kernel
theorem dX10_back_1 : decode cX10_back 1 = .ok (.iconst 0, 1) := by decide +kernel
theorem dX10_back_2 : decode cX10_back 2 = .ok (.iconst 1, 1) := by decide +kernel
theorem dX10_back_3 : decode cX10_back 3 = .ok (.invokestatic 81, 3) := by decide +kernel
theorem dX10_back_6 : decode cX10_back 6 = .ok (.ifCond .ne 5, 3) := by decide +kernel
theorem dX10_back_9 : decode cX10_back 9 = .ok (.iconst (-1), 1) := by decide +kernel
theorem dX10_back_10 : decode cX10_back 10 = .ok (.ireturn, 1) := by decide +kernel
theorem dX10_back_11 : decode cX10_back 11 = .ok (.aload_n 0, 1) := by decide +kernel
theorem dX10_back_12 : decode cX10_back 12 = .ok (.getfield 62, 3) := by decide +kernel
theorem dX10_back_15 : decode cX10_back 15 = .ok (.iload_n 1, 1) := by decide +kernel
theorem dX10_back_16 : decode cX10_back 16 = .ok (.baload, 1) := by decide +kernel
theorem dX10_back_17 : decode cX10_back 17 = .ok (.ifCond .ne 6, 3) := by decide +kernel
theorem dX10_back_20 : decode cX10_back 20 = .ok (.bipush (-2), 2) := by decide +kernel
theorem dX10_back_22 : decode cX10_back 22 = .ok (.ireturn, 1) := by decide +kernel
theorem dX10_back_23 : decode cX10_back 23 = .ok (.iconst 0, 1) := by decide +kernel
theorem dX10_back_24 : decode cX10_back 24 = .ok (.istore_n 2, 1) := by decide +kernel
theorem dX10_back_25 : decode cX10_back 25 = .ok (.iload_n 2, 1) := by decide +kernel
theorem dX10_back_26 : decode cX10_back 26 = .ok (.bipush 30, 2) := by decide +kernel
theorem dX10_back_28 : decode cX10_back 28 = .ok (.if_icmp .ge 26, 3) := by decide +kernel
theorem dX10_back_31 : decode cX10_back 31 = .ok (.aload_n 0, 1) := by decide +kernel
theorem dX10_back_32 : decode cX10_back 32 = .ok (.getfield 50, 3) := by decide +kernel
theorem dX10_back_35 : decode cX10_back 35 = .ok (.iload_n 2, 1) := by decide +kernel
theorem dX10_back_36 : decode cX10_back 36 = .ok (.aload_n 0, 1) := by decide +kernel
theorem dX10_back_37 : decode cX10_back 37 = .ok (.getfield 59, 3) := by decide +kernel
theorem dX10_back_40 : decode cX10_back 40 = .ok (.bipush 30, 2) := by decide +kernel
theorem dX10_back_42 : decode cX10_back 42 = .ok (.iload_n 1, 1) := by decide +kernel
theorem dX10_back_43 : decode cX10_back 43 = .ok (.imul, 1) := by decide +kernel
theorem dX10_back_44 : decode cX10_back 44 = .ok (.iload_n 2, 1) := by decide +kernel
theorem dX10_back_45 : decode cX10_back 45 = .ok (.iadd, 1) := by decide +kernel
theorem dX10_back_46 : decode cX10_back 46 = .ok (.iaload, 1) := by decide +kernel
theorem dX10_back_47 : decode cX10_back 47 = .ok (.iastore, 1) := by decide +kernel
theorem dX10_back_48 : decode cX10_back 48 = .ok (.iinc 2 1, 3) := by decide +kernel
theorem dX10_back_51 : decode cX10_back 51 = .ok (.goto (-26), 3) := by decide +kernel
theorem dX10_back_54 : decode cX10_back 54 = .ok (.iconst 0, 1) := by decide +kernel
theorem dX10_back_55 : decode cX10_back 55 = .ok (.istore_n 2, 1) := by decide +kernel
theorem dX10_back_56 : decode cX10_back 56 = .ok (.iload_n 2, 1) := by decide +kernel
theorem dX10_back_57 : decode cX10_back 57 = .ok (.sipush 300, 3) := by decide +kernel
theorem dX10_back_60 : decode cX10_back 60 = .ok (.if_icmp .ge 29, 3) := by decide +kernel
theorem dX10_back_63 : decode cX10_back 63 = .ok (.aload_n 0, 1) := by decide +kernel
theorem dX10_back_64 : decode cX10_back 64 = .ok (.getfield 56, 3) := by decide +kernel
theorem dX10_back_67 : decode cX10_back 67 = .ok (.iload_n 2, 1) := by decide +kernel
theorem dX10_back_68 : decode cX10_back 68 = .ok (.aload_n 0, 1) := by decide +kernel
theorem dX10_back_69 : decode cX10_back 69 = .ok (.getfield 56, 3) := by decide +kernel
theorem dX10_back_72 : decode cX10_back 72 = .ok (.sipush 300, 3) := by decide +kernel
theorem dX10_back_75 : decode cX10_back 75 = .ok (.iconst 1, 1) := by decide +kernel
theorem dX10_back_76 : decode cX10_back 76 = .ok (.iload_n 1, 1) := by decide +kernel
theorem dX10_back_77 : decode cX10_back 77 = .ok (.iadd, 1) := by decide +kernel
theorem dX10_back_78 : decode cX10_back 78 = .ok (.imul, 1) := by decide +kernel
theorem dX10_back_79 : decode cX10_back 79 = .ok (.iload_n 2, 1) := by decide +kernel
theorem dX10_back_80 : decode cX10_back 80 = .ok (.iadd, 1) := by decide +kernel
theorem dX10_back_81 : decode cX10_back 81 = .ok (.iaload, 1) := by decide +kernel
theorem dX10_back_82 : decode cX10_back 82 = .ok (.iastore, 1) := by decide +kernel
theorem dX10_back_83 : decode cX10_back 83 = .ok (.iinc 2 1, 3) := by decide +kernel
theorem dX10_back_86 : decode cX10_back 86 = .ok (.goto (-30), 3) := by decide +kernel
theorem dX10_back_89 : decode cX10_back 89 = .ok (.aload_n 0, 1) := by decide +kernel
theorem dX10_back_90 : decode cX10_back 90 = .ok (.getfield 53, 3) := by decide +kernel
theorem dX10_back_93 : decode cX10_back 93 = .ok (.iconst 0, 1) := by decide +kernel
theorem dX10_back_94 : decode cX10_back 94 = .ok (.aload_n 0, 1) := by decide +kernel
theorem dX10_back_95 : decode cX10_back 95 = .ok (.getfield 53, 3) := by decide +kernel
theorem dX10_back_98 : decode cX10_back 98 = .ok (.iconst 1, 1) := by decide +kernel
theorem dX10_back_99 : decode cX10_back 99 = .ok (.iload_n 1, 1) := by decide +kernel
theorem dX10_back_100 : decode cX10_back 100 = .ok (.iadd, 1) := by decide +kernel
theorem dX10_back_101 : decode cX10_back 101 = .ok (.iaload, 1) := by decide +kernel
theorem dX10_back_102 : decode cX10_back 102 = .ok (.iastore, 1) := by decide +kernel
theorem dX10_back_103 : decode cX10_back 103 = .ok (.aload_n 0, 1) := by decide +kernel
theorem dX10_back_104 : decode cX10_back 104 = .ok (.getfield 50, 3) := by decide +kernel
theorem dX10_back_107 : decode cX10_back 107 = .ok (.bipush 16, 2) := by decide +kernel
theorem dX10_back_109 : decode cX10_back 109 = .ok (.iaload, 1) := by decide +kernel
theorem dX10_back_110 : decode cX10_back 110 = .ok (.ireturn, 1) := by decide +kernel
theorem dX10_count_0 : decode cX10_count 0 = .ok (.iload_n 1, 1) := by decide +kernel
theorem dX10_count_1 : decode cX10_count 1 = .ok (.tableswitch 88 0 6 #[43, 50, 57, 64, 71, 76, 83], 43) := by decide +kernel
theorem dX10_count_44 : decode cX10_count 44 = .ok (.aload_n 0, 1) := by decide +kernel
theorem dX10_count_45 : decode cX10_count 45 = .ok (.getfield 13, 3) := by decide +kernel
theorem dX10_count_48 : decode cX10_count 48 = .ok (.iconst 0, 1) := by decide +kernel
theorem dX10_count_49 : decode cX10_count 49 = .ok (.iaload, 1) := by decide +kernel
theorem dX10_count_50 : decode cX10_count 50 = .ok (.ireturn, 1) := by decide +kernel
theorem dX10_count_51 : decode cX10_count 51 = .ok (.aload_n 0, 1) := by decide +kernel
theorem dX10_count_52 : decode cX10_count 52 = .ok (.getfield 17, 3) := by decide +kernel
theorem dX10_count_55 : decode cX10_count 55 = .ok (.iconst 0, 1) := by decide +kernel
theorem dX10_count_56 : decode cX10_count 56 = .ok (.iaload, 1) := by decide +kernel
theorem dX10_count_57 : decode cX10_count 57 = .ok (.ireturn, 1) := by decide +kernel
theorem dX10_count_58 : decode cX10_count 58 = .ok (.aload_n 0, 1) := by decide +kernel
theorem dX10_count_59 : decode cX10_count 59 = .ok (.getfield 29, 3) := by decide +kernel
theorem dX10_count_62 : decode cX10_count 62 = .ok (.iconst 0, 1) := by decide +kernel
theorem dX10_count_63 : decode cX10_count 63 = .ok (.iaload, 1) := by decide +kernel
theorem dX10_count_64 : decode cX10_count 64 = .ok (.ireturn, 1) := by decide +kernel
theorem dX10_count_65 : decode cX10_count 65 = .ok (.aload_n 0, 1) := by decide +kernel
theorem dX10_count_66 : decode cX10_count 66 = .ok (.getfield 38, 3) := by decide +kernel
theorem dX10_count_69 : decode cX10_count 69 = .ok (.iconst 0, 1) := by decide +kernel
theorem dX10_count_70 : decode cX10_count 70 = .ok (.iaload, 1) := by decide +kernel
theorem dX10_count_71 : decode cX10_count 71 = .ok (.ireturn, 1) := by decide +kernel
theorem dX10_count_72 : decode cX10_count 72 = .ok (.aload_n 0, 1) := by decide +kernel
theorem dX10_count_73 : decode cX10_count 73 = .ok (.getfield 134, 3) := by decide +kernel
theorem dX10_count_76 : decode cX10_count 76 = .ok (.ireturn, 1) := by decide +kernel
theorem dX10_count_77 : decode cX10_count 77 = .ok (.aload_n 0, 1) := by decide +kernel
theorem dX10_count_78 : decode cX10_count 78 = .ok (.getfield 53, 3) := by decide +kernel
theorem dX10_count_81 : decode cX10_count 81 = .ok (.iconst 0, 1) := by decide +kernel
theorem dX10_count_82 : decode cX10_count 82 = .ok (.iaload, 1) := by decide +kernel
theorem dX10_count_83 : decode cX10_count 83 = .ok (.ireturn, 1) := by decide +kernel
theorem dX10_count_84 : decode cX10_count 84 = .ok (.aload_n 0, 1) := by decide +kernel
theorem dX10_count_85 : decode cX10_count 85 = .ok (.getfield 85, 3) := by decide +kernel
theorem dX10_count_88 : decode cX10_count 88 = .ok (.ireturn, 1) := by decide +kernel
theorem dX10_count_89 : decode cX10_count 89 = .ok (.iconst (-1), 1) := by decide +kernel
theorem dX10_count_90 : decode cX10_count 90 = .ok (.ireturn, 1) := by decide +kernel
theorem dJ6_bitCount_0f7a4_0 : decode cJ6_bitCount_0f7a4 0 = .ok (.iload_n 0, 1) := by decide +kernel
theorem dJ6_bitCount_0f7a4_1 : decode cJ6_bitCount_0f7a4 1 = .ok (.iload_n 0, 1) := by decide +kernel
theorem dJ6_bitCount_0f7a4_2 : decode cJ6_bitCount_0f7a4 2 = .ok (.iconst 1, 1) := by decide +kernel
theorem dJ6_bitCount_0f7a4_3 : decode cJ6_bitCount_0f7a4 3 = .ok (.iushr, 1) := by decide +kernel
theorem dJ6_bitCount_0f7a4_4 : decode cJ6_bitCount_0f7a4 4 = .ok (.ldc_w 265, 3) := by decide +kernel
theorem dJ6_bitCount_0f7a4_7 : decode cJ6_bitCount_0f7a4 7 = .ok (.iand, 1) := by decide +kernel
theorem dJ6_bitCount_0f7a4_8 : decode cJ6_bitCount_0f7a4 8 = .ok (.isub, 1) := by decide +kernel
theorem dJ6_bitCount_0f7a4_9 : decode cJ6_bitCount_0f7a4 9 = .ok (.istore_n 0, 1) := by decide +kernel
theorem dJ6_bitCount_0f7a4_10 : decode cJ6_bitCount_0f7a4 10 = .ok (.iload_n 0, 1) := by decide +kernel
theorem dJ6_bitCount_0f7a4_11 : decode cJ6_bitCount_0f7a4 11 = .ok (.ldc_w 266, 3) := by decide +kernel
theorem dJ6_bitCount_0f7a4_14 : decode cJ6_bitCount_0f7a4 14 = .ok (.iand, 1) := by decide +kernel
theorem dJ6_bitCount_0f7a4_15 : decode cJ6_bitCount_0f7a4 15 = .ok (.iload_n 0, 1) := by decide +kernel
theorem dJ6_bitCount_0f7a4_16 : decode cJ6_bitCount_0f7a4 16 = .ok (.iconst 2, 1) := by decide +kernel
theorem dJ6_bitCount_0f7a4_17 : decode cJ6_bitCount_0f7a4 17 = .ok (.iushr, 1) := by decide +kernel
theorem dJ6_bitCount_0f7a4_18 : decode cJ6_bitCount_0f7a4 18 = .ok (.ldc_w 266, 3) := by decide +kernel
theorem dJ6_bitCount_0f7a4_21 : decode cJ6_bitCount_0f7a4 21 = .ok (.iand, 1) := by decide +kernel
theorem dJ6_bitCount_0f7a4_22 : decode cJ6_bitCount_0f7a4 22 = .ok (.iadd, 1) := by decide +kernel
theorem dJ6_bitCount_0f7a4_23 : decode cJ6_bitCount_0f7a4 23 = .ok (.istore_n 0, 1) := by decide +kernel
theorem dJ6_bitCount_0f7a4_24 : decode cJ6_bitCount_0f7a4 24 = .ok (.iload_n 0, 1) := by decide +kernel
theorem dJ6_bitCount_0f7a4_25 : decode cJ6_bitCount_0f7a4 25 = .ok (.iload_n 0, 1) := by decide +kernel
theorem dJ6_bitCount_0f7a4_26 : decode cJ6_bitCount_0f7a4 26 = .ok (.iconst 4, 1) := by decide +kernel
theorem dJ6_bitCount_0f7a4_27 : decode cJ6_bitCount_0f7a4 27 = .ok (.iushr, 1) := by decide +kernel
theorem dJ6_bitCount_0f7a4_28 : decode cJ6_bitCount_0f7a4 28 = .ok (.iadd, 1) := by decide +kernel
theorem dJ6_bitCount_0f7a4_29 : decode cJ6_bitCount_0f7a4 29 = .ok (.ldc_w 267, 3) := by decide +kernel
theorem dJ6_bitCount_0f7a4_32 : decode cJ6_bitCount_0f7a4 32 = .ok (.iand, 1) := by decide +kernel
theorem dJ6_bitCount_0f7a4_33 : decode cJ6_bitCount_0f7a4 33 = .ok (.istore_n 0, 1) := by decide +kernel
theorem dJ6_bitCount_0f7a4_34 : decode cJ6_bitCount_0f7a4 34 = .ok (.iload_n 0, 1) := by decide +kernel
theorem dJ6_bitCount_0f7a4_35 : decode cJ6_bitCount_0f7a4 35 = .ok (.iload_n 0, 1) := by decide +kernel
theorem dJ6_bitCount_0f7a4_36 : decode cJ6_bitCount_0f7a4 36 = .ok (.bipush 8, 2) := by decide +kernel
theorem dJ6_bitCount_0f7a4_38 : decode cJ6_bitCount_0f7a4 38 = .ok (.iushr, 1) := by decide +kernel
theorem dJ6_bitCount_0f7a4_39 : decode cJ6_bitCount_0f7a4 39 = .ok (.iadd, 1) := by decide +kernel
theorem dJ6_bitCount_0f7a4_40 : decode cJ6_bitCount_0f7a4 40 = .ok (.istore_n 0, 1) := by decide +kernel
theorem dJ6_bitCount_0f7a4_41 : decode cJ6_bitCount_0f7a4 41 = .ok (.iload_n 0, 1) := by decide +kernel
theorem dJ6_bitCount_0f7a4_42 : decode cJ6_bitCount_0f7a4 42 = .ok (.iload_n 0, 1) := by decide +kernel
theorem dJ6_bitCount_0f7a4_43 : decode cJ6_bitCount_0f7a4 43 = .ok (.bipush 16, 2) := by decide +kernel
theorem dJ6_bitCount_0f7a4_45 : decode cJ6_bitCount_0f7a4 45 = .ok (.iushr, 1) := by decide +kernel
theorem dJ6_bitCount_0f7a4_46 : decode cJ6_bitCount_0f7a4 46 = .ok (.iadd, 1) := by decide +kernel
theorem dJ6_bitCount_0f7a4_47 : decode cJ6_bitCount_0f7a4 47 = .ok (.istore_n 0, 1) := by decide +kernel
theorem dJ6_bitCount_0f7a4_48 : decode cJ6_bitCount_0f7a4 48 = .ok (.iload_n 0, 1) := by decide +kernel
theorem dJ6_bitCount_0f7a4_49 : decode cJ6_bitCount_0f7a4 49 = .ok (.bipush 63, 2) := by decide +kernel
theorem dJ6_bitCount_0f7a4_51 : decode cJ6_bitCount_0f7a4 51 = .ok (.iand, 1) := by decide +kernel
theorem dJ6_bitCount_0f7a4_52 : decode cJ6_bitCount_0f7a4 52 = .ok (.ireturn, 1) := by decide +kernel
theorem dL_law_0 : decode cL_law 0 = .ok (.new 7, 3) := by decide +kernel
theorem dL_law_3 : decode cL_law 3 = .ok (.dup, 1) := by decide +kernel
theorem dL_law_4 : decode cL_law 4 = .ok (.invokespecial 9, 3) := by decide +kernel
theorem dL_law_7 : decode cL_law 7 = .ok (.astore_n 1, 1) := by decide +kernel
theorem dL_law_8 : decode cL_law 8 = .ok (.new 10, 3) := by decide +kernel
theorem dL_law_11 : decode cL_law 11 = .ok (.dup, 1) := by decide +kernel
theorem dL_law_12 : decode cL_law 12 = .ok (.invokespecial 12, 3) := by decide +kernel
theorem dL_law_15 : decode cL_law 15 = .ok (.astore_n 2, 1) := by decide +kernel
theorem dL_law_16 : decode cL_law 16 = .ok (.iconst 0, 1) := by decide +kernel
theorem dL_law_17 : decode cL_law 17 = .ok (.istore_n 3, 1) := by decide +kernel
theorem dL_law_18 : decode cL_law 18 = .ok (.iload_n 3, 1) := by decide +kernel
theorem dL_law_19 : decode cL_law 19 = .ok (.aload_n 0, 1) := by decide +kernel
theorem dL_law_20 : decode cL_law 20 = .ok (.arraylength, 1) := by decide +kernel
theorem dL_law_21 : decode cL_law 21 = .ok (.bipush 7, 2) := by decide +kernel
theorem dL_law_23 : decode cL_law 23 = .ok (.isub, 1) := by decide +kernel
theorem dL_law_24 : decode cL_law 24 = .ok (.if_icmp .gt 970, 3) := by decide +kernel
theorem dL_law_27 : decode cL_law 27 = .ok (.aload_n 0, 1) := by decide +kernel
theorem dL_law_28 : decode cL_law 28 = .ok (.iload_n 3, 1) := by decide +kernel
theorem dL_law_29 : decode cL_law 29 = .ok (.iaload, 1) := by decide +kernel
theorem dL_law_30 : decode cL_law 30 = .ok (.bipush 31, 2) := by decide +kernel
theorem dL_law_32 : decode cL_law 32 = .ok (.iand, 1) := by decide +kernel
theorem dL_law_33 : decode cL_law 33 = .ok (.tableswitch 955 0 30 #[139, 162, 175, 188, 221, 254, 287, 320, 353, 386, 419, 442, 465, 478, 501, 524, 547, 570, 583, 616, 639, 652, 665, 718, 741, 764, 839, 872, 895, 918, 941], 139) := by decide +kernel
theorem dL_law_172 : decode cL_law 172 = .ok (.aload_n 1, 1) := by decide +kernel
theorem dL_law_173 : decode cL_law 173 = .ok (.aload_n 0, 1) := by decide +kernel
theorem dL_law_174 : decode cL_law 174 = .ok (.iload_n 3, 1) := by decide +kernel
theorem dL_law_175 : decode cL_law 175 = .ok (.iconst 1, 1) := by decide +kernel
theorem dL_law_176 : decode cL_law 176 = .ok (.iadd, 1) := by decide +kernel
theorem dL_law_177 : decode cL_law 177 = .ok (.iaload, 1) := by decide +kernel
theorem dL_law_178 : decode cL_law 178 = .ok (.invokevirtual 13, 3) := by decide +kernel
theorem dL_law_181 : decode cL_law 181 = .ok (.aload_n 2, 1) := by decide +kernel
theorem dL_law_182 : decode cL_law 182 = .ok (.aload_n 0, 1) := by decide +kernel
theorem dL_law_183 : decode cL_law 183 = .ok (.iload_n 3, 1) := by decide +kernel
theorem dL_law_184 : decode cL_law 184 = .ok (.iconst 1, 1) := by decide +kernel
theorem dL_law_185 : decode cL_law 185 = .ok (.iadd, 1) := by decide +kernel
theorem dL_law_186 : decode cL_law 186 = .ok (.iaload, 1) := by decide +kernel
theorem dL_law_187 : decode cL_law 187 = .ok (.invokevirtual 17, 3) := by decide +kernel
theorem dL_law_190 : decode cL_law 190 = .ok (.if_icmp .eq 798, 3) := by decide +kernel
theorem dL_law_193 : decode cL_law 193 = .ok (.iconst 0, 1) := by decide +kernel
theorem dL_law_194 : decode cL_law 194 = .ok (.ireturn, 1) := by decide +kernel
theorem dL_law_195 : decode cL_law 195 = .ok (.aload_n 1, 1) := by decide +kernel
theorem dL_law_196 : decode cL_law 196 = .ok (.invokevirtual 18, 3) := by decide +kernel
theorem dL_law_199 : decode cL_law 199 = .ok (.aload_n 2, 1) := by decide +kernel
theorem dL_law_200 : decode cL_law 200 = .ok (.invokevirtual 22, 3) := by decide +kernel
theorem dL_law_203 : decode cL_law 203 = .ok (.if_icmp .eq 785, 3) := by decide +kernel
theorem dL_law_206 : decode cL_law 206 = .ok (.iconst 0, 1) := by decide +kernel
theorem dL_law_207 : decode cL_law 207 = .ok (.ireturn, 1) := by decide +kernel
theorem dL_law_208 : decode cL_law 208 = .ok (.aload_n 1, 1) := by decide +kernel
theorem dL_law_209 : decode cL_law 209 = .ok (.invokevirtual 23, 3) := by decide +kernel
theorem dL_law_212 : decode cL_law 212 = .ok (.aload_n 2, 1) := by decide +kernel
theorem dL_law_213 : decode cL_law 213 = .ok (.invokevirtual 26, 3) := by decide +kernel
theorem dL_law_216 : decode cL_law 216 = .ok (.if_icmp .eq 772, 3) := by decide +kernel
theorem dL_law_219 : decode cL_law 219 = .ok (.iconst 0, 1) := by decide +kernel
theorem dL_law_220 : decode cL_law 220 = .ok (.ireturn, 1) := by decide +kernel
theorem dL_law_221 : decode cL_law 221 = .ok (.aload_n 1, 1) := by decide +kernel
theorem dL_law_222 : decode cL_law 222 = .ok (.aload_n 0, 1) := by decide +kernel
theorem dL_law_223 : decode cL_law 223 = .ok (.iload_n 3, 1) := by decide +kernel
theorem dL_law_224 : decode cL_law 224 = .ok (.iconst 1, 1) := by decide +kernel
theorem dL_law_225 : decode cL_law 225 = .ok (.iadd, 1) := by decide +kernel
theorem dL_law_226 : decode cL_law 226 = .ok (.iaload, 1) := by decide +kernel
theorem dL_law_227 : decode cL_law 227 = .ok (.aload_n 0, 1) := by decide +kernel
theorem dL_law_228 : decode cL_law 228 = .ok (.iload_n 3, 1) := by decide +kernel
theorem dL_law_229 : decode cL_law 229 = .ok (.iconst 2, 1) := by decide +kernel
theorem dL_law_230 : decode cL_law 230 = .ok (.iadd, 1) := by decide +kernel
theorem dL_law_231 : decode cL_law 231 = .ok (.iaload, 1) := by decide +kernel
theorem dL_law_232 : decode cL_law 232 = .ok (.invokevirtual 27, 3) := by decide +kernel
theorem dL_law_235 : decode cL_law 235 = .ok (.aload_n 2, 1) := by decide +kernel
theorem dL_law_236 : decode cL_law 236 = .ok (.aload_n 0, 1) := by decide +kernel
theorem dL_law_237 : decode cL_law 237 = .ok (.iload_n 3, 1) := by decide +kernel
theorem dL_law_238 : decode cL_law 238 = .ok (.iconst 1, 1) := by decide +kernel
theorem dL_law_239 : decode cL_law 239 = .ok (.iadd, 1) := by decide +kernel
theorem dL_law_240 : decode cL_law 240 = .ok (.iaload, 1) := by decide +kernel
theorem dL_law_241 : decode cL_law 241 = .ok (.aload_n 0, 1) := by decide +kernel
theorem dL_law_242 : decode cL_law 242 = .ok (.iload_n 3, 1) := by decide +kernel
theorem dL_law_243 : decode cL_law 243 = .ok (.iconst 2, 1) := by decide +kernel
theorem dL_law_244 : decode cL_law 244 = .ok (.iadd, 1) := by decide +kernel
theorem dL_law_245 : decode cL_law 245 = .ok (.iaload, 1) := by decide +kernel
theorem dL_law_246 : decode cL_law 246 = .ok (.invokevirtual 31, 3) := by decide +kernel
theorem dL_law_249 : decode cL_law 249 = .ok (.if_icmp .eq 739, 3) := by decide +kernel
theorem dL_law_252 : decode cL_law 252 = .ok (.iconst 0, 1) := by decide +kernel
theorem dL_law_253 : decode cL_law 253 = .ok (.ireturn, 1) := by decide +kernel
theorem dL_law_254 : decode cL_law 254 = .ok (.aload_n 1, 1) := by decide +kernel
theorem dL_law_255 : decode cL_law 255 = .ok (.aload_n 0, 1) := by decide +kernel
theorem dL_law_256 : decode cL_law 256 = .ok (.iload_n 3, 1) := by decide +kernel
theorem dL_law_257 : decode cL_law 257 = .ok (.iconst 1, 1) := by decide +kernel
theorem dL_law_258 : decode cL_law 258 = .ok (.iadd, 1) := by decide +kernel
theorem dL_law_259 : decode cL_law 259 = .ok (.iaload, 1) := by decide +kernel
theorem dL_law_260 : decode cL_law 260 = .ok (.aload_n 0, 1) := by decide +kernel
theorem dL_law_261 : decode cL_law 261 = .ok (.iload_n 3, 1) := by decide +kernel
theorem dL_law_262 : decode cL_law 262 = .ok (.iconst 2, 1) := by decide +kernel
theorem dL_law_263 : decode cL_law 263 = .ok (.iadd, 1) := by decide +kernel
theorem dL_law_264 : decode cL_law 264 = .ok (.iaload, 1) := by decide +kernel
theorem dL_law_265 : decode cL_law 265 = .ok (.invokevirtual 32, 3) := by decide +kernel
theorem dL_law_268 : decode cL_law 268 = .ok (.aload_n 2, 1) := by decide +kernel
theorem dL_law_269 : decode cL_law 269 = .ok (.aload_n 0, 1) := by decide +kernel
theorem dL_law_270 : decode cL_law 270 = .ok (.iload_n 3, 1) := by decide +kernel
theorem dL_law_271 : decode cL_law 271 = .ok (.iconst 1, 1) := by decide +kernel
theorem dL_law_272 : decode cL_law 272 = .ok (.iadd, 1) := by decide +kernel
theorem dL_law_273 : decode cL_law 273 = .ok (.iaload, 1) := by decide +kernel
theorem dL_law_274 : decode cL_law 274 = .ok (.aload_n 0, 1) := by decide +kernel
theorem dL_law_275 : decode cL_law 275 = .ok (.iload_n 3, 1) := by decide +kernel
theorem dL_law_276 : decode cL_law 276 = .ok (.iconst 2, 1) := by decide +kernel
theorem dL_law_277 : decode cL_law 277 = .ok (.iadd, 1) := by decide +kernel
theorem dL_law_278 : decode cL_law 278 = .ok (.iaload, 1) := by decide +kernel
theorem dL_law_279 : decode cL_law 279 = .ok (.invokevirtual 35, 3) := by decide +kernel
theorem dL_law_282 : decode cL_law 282 = .ok (.if_icmp .eq 706, 3) := by decide +kernel
theorem dL_law_285 : decode cL_law 285 = .ok (.iconst 0, 1) := by decide +kernel
theorem dL_law_286 : decode cL_law 286 = .ok (.ireturn, 1) := by decide +kernel
theorem dL_law_287 : decode cL_law 287 = .ok (.aload_n 1, 1) := by decide +kernel
theorem dL_law_288 : decode cL_law 288 = .ok (.aload_n 0, 1) := by decide +kernel
theorem dL_law_289 : decode cL_law 289 = .ok (.iload_n 3, 1) := by decide +kernel
theorem dL_law_290 : decode cL_law 290 = .ok (.iconst 1, 1) := by decide +kernel
theorem dL_law_291 : decode cL_law 291 = .ok (.iadd, 1) := by decide +kernel
theorem dL_law_292 : decode cL_law 292 = .ok (.iaload, 1) := by decide +kernel
theorem dL_law_293 : decode cL_law 293 = .ok (.aload_n 0, 1) := by decide +kernel
theorem dL_law_294 : decode cL_law 294 = .ok (.iload_n 3, 1) := by decide +kernel
theorem dL_law_295 : decode cL_law 295 = .ok (.iconst 2, 1) := by decide +kernel
theorem dL_law_296 : decode cL_law 296 = .ok (.iadd, 1) := by decide +kernel
theorem dL_law_297 : decode cL_law 297 = .ok (.iaload, 1) := by decide +kernel
theorem dL_law_298 : decode cL_law 298 = .ok (.invokevirtual 36, 3) := by decide +kernel
theorem dL_law_301 : decode cL_law 301 = .ok (.aload_n 2, 1) := by decide +kernel
theorem dL_law_302 : decode cL_law 302 = .ok (.aload_n 0, 1) := by decide +kernel
theorem dL_law_303 : decode cL_law 303 = .ok (.iload_n 3, 1) := by decide +kernel
theorem dL_law_304 : decode cL_law 304 = .ok (.iconst 1, 1) := by decide +kernel
theorem dL_law_305 : decode cL_law 305 = .ok (.iadd, 1) := by decide +kernel
theorem dL_law_306 : decode cL_law 306 = .ok (.iaload, 1) := by decide +kernel
theorem dL_law_307 : decode cL_law 307 = .ok (.aload_n 0, 1) := by decide +kernel
theorem dL_law_308 : decode cL_law 308 = .ok (.iload_n 3, 1) := by decide +kernel
theorem dL_law_309 : decode cL_law 309 = .ok (.iconst 2, 1) := by decide +kernel
theorem dL_law_310 : decode cL_law 310 = .ok (.iadd, 1) := by decide +kernel
theorem dL_law_311 : decode cL_law 311 = .ok (.iaload, 1) := by decide +kernel
theorem dL_law_312 : decode cL_law 312 = .ok (.invokevirtual 39, 3) := by decide +kernel
theorem dL_law_315 : decode cL_law 315 = .ok (.if_icmp .eq 673, 3) := by decide +kernel
theorem dL_law_318 : decode cL_law 318 = .ok (.iconst 0, 1) := by decide +kernel
theorem dL_law_319 : decode cL_law 319 = .ok (.ireturn, 1) := by decide +kernel
theorem dL_law_320 : decode cL_law 320 = .ok (.aload_n 1, 1) := by decide +kernel
theorem dL_law_321 : decode cL_law 321 = .ok (.aload_n 0, 1) := by decide +kernel
theorem dL_law_322 : decode cL_law 322 = .ok (.iload_n 3, 1) := by decide +kernel
theorem dL_law_323 : decode cL_law 323 = .ok (.iconst 1, 1) := by decide +kernel
theorem dL_law_324 : decode cL_law 324 = .ok (.iadd, 1) := by decide +kernel
theorem dL_law_325 : decode cL_law 325 = .ok (.iaload, 1) := by decide +kernel
theorem dL_law_326 : decode cL_law 326 = .ok (.aload_n 0, 1) := by decide +kernel
theorem dL_law_327 : decode cL_law 327 = .ok (.iload_n 3, 1) := by decide +kernel
theorem dL_law_328 : decode cL_law 328 = .ok (.iconst 2, 1) := by decide +kernel
theorem dL_law_329 : decode cL_law 329 = .ok (.iadd, 1) := by decide +kernel
theorem dL_law_330 : decode cL_law 330 = .ok (.iaload, 1) := by decide +kernel
theorem dL_law_331 : decode cL_law 331 = .ok (.invokevirtual 40, 3) := by decide +kernel
theorem dL_law_334 : decode cL_law 334 = .ok (.aload_n 2, 1) := by decide +kernel
theorem dL_law_335 : decode cL_law 335 = .ok (.aload_n 0, 1) := by decide +kernel
theorem dL_law_336 : decode cL_law 336 = .ok (.iload_n 3, 1) := by decide +kernel
theorem dL_law_337 : decode cL_law 337 = .ok (.iconst 1, 1) := by decide +kernel
theorem dL_law_338 : decode cL_law 338 = .ok (.iadd, 1) := by decide +kernel
theorem dL_law_339 : decode cL_law 339 = .ok (.iaload, 1) := by decide +kernel
theorem dL_law_340 : decode cL_law 340 = .ok (.aload_n 0, 1) := by decide +kernel
theorem dL_law_341 : decode cL_law 341 = .ok (.iload_n 3, 1) := by decide +kernel
theorem dL_law_342 : decode cL_law 342 = .ok (.iconst 2, 1) := by decide +kernel
theorem dL_law_343 : decode cL_law 343 = .ok (.iadd, 1) := by decide +kernel
theorem dL_law_344 : decode cL_law 344 = .ok (.iaload, 1) := by decide +kernel
theorem dL_law_345 : decode cL_law 345 = .ok (.invokevirtual 43, 3) := by decide +kernel
theorem dL_law_348 : decode cL_law 348 = .ok (.if_icmp .eq 640, 3) := by decide +kernel
theorem dL_law_351 : decode cL_law 351 = .ok (.iconst 0, 1) := by decide +kernel
theorem dL_law_352 : decode cL_law 352 = .ok (.ireturn, 1) := by decide +kernel
theorem dL_law_353 : decode cL_law 353 = .ok (.aload_n 1, 1) := by decide +kernel
theorem dL_law_354 : decode cL_law 354 = .ok (.aload_n 0, 1) := by decide +kernel
theorem dL_law_355 : decode cL_law 355 = .ok (.iload_n 3, 1) := by decide +kernel
theorem dL_law_356 : decode cL_law 356 = .ok (.iconst 1, 1) := by decide +kernel
theorem dL_law_357 : decode cL_law 357 = .ok (.iadd, 1) := by decide +kernel
theorem dL_law_358 : decode cL_law 358 = .ok (.iaload, 1) := by decide +kernel
theorem dL_law_359 : decode cL_law 359 = .ok (.aload_n 0, 1) := by decide +kernel
theorem dL_law_360 : decode cL_law 360 = .ok (.iload_n 3, 1) := by decide +kernel
theorem dL_law_361 : decode cL_law 361 = .ok (.iconst 2, 1) := by decide +kernel
theorem dL_law_362 : decode cL_law 362 = .ok (.iadd, 1) := by decide +kernel
theorem dL_law_363 : decode cL_law 363 = .ok (.iaload, 1) := by decide +kernel
theorem dL_law_364 : decode cL_law 364 = .ok (.invokevirtual 44, 3) := by decide +kernel
theorem dL_law_367 : decode cL_law 367 = .ok (.aload_n 2, 1) := by decide +kernel
theorem dL_law_368 : decode cL_law 368 = .ok (.aload_n 0, 1) := by decide +kernel
theorem dL_law_369 : decode cL_law 369 = .ok (.iload_n 3, 1) := by decide +kernel
theorem dL_law_370 : decode cL_law 370 = .ok (.iconst 1, 1) := by decide +kernel
theorem dL_law_371 : decode cL_law 371 = .ok (.iadd, 1) := by decide +kernel
theorem dL_law_372 : decode cL_law 372 = .ok (.iaload, 1) := by decide +kernel
theorem dL_law_373 : decode cL_law 373 = .ok (.aload_n 0, 1) := by decide +kernel
theorem dL_law_374 : decode cL_law 374 = .ok (.iload_n 3, 1) := by decide +kernel
theorem dL_law_375 : decode cL_law 375 = .ok (.iconst 2, 1) := by decide +kernel
theorem dL_law_376 : decode cL_law 376 = .ok (.iadd, 1) := by decide +kernel
theorem dL_law_377 : decode cL_law 377 = .ok (.iaload, 1) := by decide +kernel
theorem dL_law_378 : decode cL_law 378 = .ok (.invokevirtual 47, 3) := by decide +kernel
theorem dL_law_381 : decode cL_law 381 = .ok (.if_icmp .eq 607, 3) := by decide +kernel
theorem dL_law_384 : decode cL_law 384 = .ok (.iconst 0, 1) := by decide +kernel
theorem dL_law_385 : decode cL_law 385 = .ok (.ireturn, 1) := by decide +kernel
theorem dL_law_386 : decode cL_law 386 = .ok (.aload_n 1, 1) := by decide +kernel
theorem dL_law_387 : decode cL_law 387 = .ok (.aload_n 0, 1) := by decide +kernel
theorem dL_law_388 : decode cL_law 388 = .ok (.iload_n 3, 1) := by decide +kernel
theorem dL_law_389 : decode cL_law 389 = .ok (.iconst 1, 1) := by decide +kernel
theorem dL_law_390 : decode cL_law 390 = .ok (.iadd, 1) := by decide +kernel
theorem dL_law_391 : decode cL_law 391 = .ok (.iaload, 1) := by decide +kernel
theorem dL_law_392 : decode cL_law 392 = .ok (.aload_n 0, 1) := by decide +kernel
theorem dL_law_393 : decode cL_law 393 = .ok (.iload_n 3, 1) := by decide +kernel
theorem dL_law_394 : decode cL_law 394 = .ok (.iconst 2, 1) := by decide +kernel
theorem dL_law_395 : decode cL_law 395 = .ok (.iadd, 1) := by decide +kernel
theorem dL_law_396 : decode cL_law 396 = .ok (.iaload, 1) := by decide +kernel
theorem dL_law_397 : decode cL_law 397 = .ok (.invokevirtual 48, 3) := by decide +kernel
theorem dL_law_400 : decode cL_law 400 = .ok (.aload_n 2, 1) := by decide +kernel
theorem dL_law_401 : decode cL_law 401 = .ok (.aload_n 0, 1) := by decide +kernel
theorem dL_law_402 : decode cL_law 402 = .ok (.iload_n 3, 1) := by decide +kernel
theorem dL_law_403 : decode cL_law 403 = .ok (.iconst 1, 1) := by decide +kernel
theorem dL_law_404 : decode cL_law 404 = .ok (.iadd, 1) := by decide +kernel
theorem dL_law_405 : decode cL_law 405 = .ok (.iaload, 1) := by decide +kernel
theorem dL_law_406 : decode cL_law 406 = .ok (.aload_n 0, 1) := by decide +kernel
theorem dL_law_407 : decode cL_law 407 = .ok (.iload_n 3, 1) := by decide +kernel
theorem dL_law_408 : decode cL_law 408 = .ok (.iconst 2, 1) := by decide +kernel
theorem dL_law_409 : decode cL_law 409 = .ok (.iadd, 1) := by decide +kernel
theorem dL_law_410 : decode cL_law 410 = .ok (.iaload, 1) := by decide +kernel
theorem dL_law_411 : decode cL_law 411 = .ok (.invokevirtual 51, 3) := by decide +kernel
theorem dL_law_414 : decode cL_law 414 = .ok (.if_icmp .eq 574, 3) := by decide +kernel
theorem dL_law_417 : decode cL_law 417 = .ok (.iconst 0, 1) := by decide +kernel
theorem dL_law_418 : decode cL_law 418 = .ok (.ireturn, 1) := by decide +kernel
theorem dL_law_419 : decode cL_law 419 = .ok (.aload_n 1, 1) := by decide +kernel
theorem dL_law_420 : decode cL_law 420 = .ok (.aload_n 0, 1) := by decide +kernel
theorem dL_law_421 : decode cL_law 421 = .ok (.iload_n 3, 1) := by decide +kernel
theorem dL_law_422 : decode cL_law 422 = .ok (.iconst 1, 1) := by decide +kernel
theorem dL_law_423 : decode cL_law 423 = .ok (.iadd, 1) := by decide +kernel
theorem dL_law_424 : decode cL_law 424 = .ok (.iaload, 1) := by decide +kernel
theorem dL_law_425 : decode cL_law 425 = .ok (.aload_n 0, 1) := by decide +kernel
theorem dL_law_426 : decode cL_law 426 = .ok (.iload_n 3, 1) := by decide +kernel
theorem dL_law_427 : decode cL_law 427 = .ok (.iconst 2, 1) := by decide +kernel
theorem dL_law_428 : decode cL_law 428 = .ok (.iadd, 1) := by decide +kernel
theorem dL_law_429 : decode cL_law 429 = .ok (.iaload, 1) := by decide +kernel
theorem dL_law_430 : decode cL_law 430 = .ok (.invokevirtual 52, 3) := by decide +kernel
theorem dL_law_433 : decode cL_law 433 = .ok (.aload_n 2, 1) := by decide +kernel
theorem dL_law_434 : decode cL_law 434 = .ok (.aload_n 0, 1) := by decide +kernel
theorem dL_law_435 : decode cL_law 435 = .ok (.iload_n 3, 1) := by decide +kernel
theorem dL_law_436 : decode cL_law 436 = .ok (.iconst 1, 1) := by decide +kernel
theorem dL_law_437 : decode cL_law 437 = .ok (.iadd, 1) := by decide +kernel
theorem dL_law_438 : decode cL_law 438 = .ok (.iaload, 1) := by decide +kernel
theorem dL_law_439 : decode cL_law 439 = .ok (.aload_n 0, 1) := by decide +kernel
theorem dL_law_440 : decode cL_law 440 = .ok (.iload_n 3, 1) := by decide +kernel
theorem dL_law_441 : decode cL_law 441 = .ok (.iconst 2, 1) := by decide +kernel
theorem dL_law_442 : decode cL_law 442 = .ok (.iadd, 1) := by decide +kernel
theorem dL_law_443 : decode cL_law 443 = .ok (.iaload, 1) := by decide +kernel
theorem dL_law_444 : decode cL_law 444 = .ok (.invokevirtual 55, 3) := by decide +kernel
theorem dL_law_447 : decode cL_law 447 = .ok (.if_icmp .eq 541, 3) := by decide +kernel
theorem dL_law_450 : decode cL_law 450 = .ok (.iconst 0, 1) := by decide +kernel
theorem dL_law_451 : decode cL_law 451 = .ok (.ireturn, 1) := by decide +kernel
theorem dL_law_452 : decode cL_law 452 = .ok (.aload_n 1, 1) := by decide +kernel
theorem dL_law_453 : decode cL_law 453 = .ok (.aload_n 0, 1) := by decide +kernel
theorem dL_law_454 : decode cL_law 454 = .ok (.iload_n 3, 1) := by decide +kernel
theorem dL_law_455 : decode cL_law 455 = .ok (.iconst 1, 1) := by decide +kernel
theorem dL_law_456 : decode cL_law 456 = .ok (.iadd, 1) := by decide +kernel
theorem dL_law_457 : decode cL_law 457 = .ok (.iaload, 1) := by decide +kernel
theorem dL_law_458 : decode cL_law 458 = .ok (.invokevirtual 56, 3) := by decide +kernel
theorem dL_law_461 : decode cL_law 461 = .ok (.aload_n 2, 1) := by decide +kernel
theorem dL_law_462 : decode cL_law 462 = .ok (.aload_n 0, 1) := by decide +kernel
theorem dL_law_463 : decode cL_law 463 = .ok (.iload_n 3, 1) := by decide +kernel
theorem dL_law_464 : decode cL_law 464 = .ok (.iconst 1, 1) := by decide +kernel
theorem dL_law_465 : decode cL_law 465 = .ok (.iadd, 1) := by decide +kernel
theorem dL_law_466 : decode cL_law 466 = .ok (.iaload, 1) := by decide +kernel
theorem dL_law_467 : decode cL_law 467 = .ok (.invokevirtual 59, 3) := by decide +kernel
theorem dL_law_470 : decode cL_law 470 = .ok (.if_icmp .eq 518, 3) := by decide +kernel
theorem dL_law_473 : decode cL_law 473 = .ok (.iconst 0, 1) := by decide +kernel
theorem dL_law_474 : decode cL_law 474 = .ok (.ireturn, 1) := by decide +kernel
theorem dL_law_475 : decode cL_law 475 = .ok (.aload_n 1, 1) := by decide +kernel
theorem dL_law_476 : decode cL_law 476 = .ok (.aload_n 0, 1) := by decide +kernel
theorem dL_law_477 : decode cL_law 477 = .ok (.iload_n 3, 1) := by decide +kernel
theorem dL_law_478 : decode cL_law 478 = .ok (.iconst 1, 1) := by decide +kernel
theorem dL_law_479 : decode cL_law 479 = .ok (.iadd, 1) := by decide +kernel
theorem dL_law_480 : decode cL_law 480 = .ok (.iaload, 1) := by decide +kernel
theorem dL_law_481 : decode cL_law 481 = .ok (.invokevirtual 60, 3) := by decide +kernel
theorem dL_law_484 : decode cL_law 484 = .ok (.aload_n 2, 1) := by decide +kernel
theorem dL_law_485 : decode cL_law 485 = .ok (.aload_n 0, 1) := by decide +kernel
theorem dL_law_486 : decode cL_law 486 = .ok (.iload_n 3, 1) := by decide +kernel
theorem dL_law_487 : decode cL_law 487 = .ok (.iconst 1, 1) := by decide +kernel
theorem dL_law_488 : decode cL_law 488 = .ok (.iadd, 1) := by decide +kernel
theorem dL_law_489 : decode cL_law 489 = .ok (.iaload, 1) := by decide +kernel
theorem dL_law_490 : decode cL_law 490 = .ok (.invokevirtual 63, 3) := by decide +kernel
theorem dL_law_493 : decode cL_law 493 = .ok (.if_icmp .eq 495, 3) := by decide +kernel
theorem dL_law_496 : decode cL_law 496 = .ok (.iconst 0, 1) := by decide +kernel
theorem dL_law_497 : decode cL_law 497 = .ok (.ireturn, 1) := by decide +kernel
theorem dL_law_498 : decode cL_law 498 = .ok (.aload_n 1, 1) := by decide +kernel
theorem dL_law_499 : decode cL_law 499 = .ok (.invokevirtual 64, 3) := by decide +kernel
theorem dL_law_502 : decode cL_law 502 = .ok (.aload_n 2, 1) := by decide +kernel
theorem dL_law_503 : decode cL_law 503 = .ok (.invokevirtual 67, 3) := by decide +kernel
theorem dL_law_506 : decode cL_law 506 = .ok (.if_icmp .eq 482, 3) := by decide +kernel
theorem dL_law_509 : decode cL_law 509 = .ok (.iconst 0, 1) := by decide +kernel
theorem dL_law_510 : decode cL_law 510 = .ok (.ireturn, 1) := by decide +kernel
theorem dL_law_511 : decode cL_law 511 = .ok (.aload_n 1, 1) := by decide +kernel
theorem dL_law_512 : decode cL_law 512 = .ok (.aload_n 0, 1) := by decide +kernel
theorem dL_law_513 : decode cL_law 513 = .ok (.iload_n 3, 1) := by decide +kernel
theorem dL_law_514 : decode cL_law 514 = .ok (.iconst 1, 1) := by decide +kernel
theorem dL_law_515 : decode cL_law 515 = .ok (.iadd, 1) := by decide +kernel
theorem dL_law_516 : decode cL_law 516 = .ok (.iaload, 1) := by decide +kernel
theorem dL_law_517 : decode cL_law 517 = .ok (.invokevirtual 68, 3) := by decide +kernel
theorem dL_law_520 : decode cL_law 520 = .ok (.aload_n 2, 1) := by decide +kernel
theorem dL_law_521 : decode cL_law 521 = .ok (.aload_n 0, 1) := by decide +kernel
theorem dL_law_522 : decode cL_law 522 = .ok (.iload_n 3, 1) := by decide +kernel
theorem dL_law_523 : decode cL_law 523 = .ok (.iconst 1, 1) := by decide +kernel
theorem dL_law_524 : decode cL_law 524 = .ok (.iadd, 1) := by decide +kernel
theorem dL_law_525 : decode cL_law 525 = .ok (.iaload, 1) := by decide +kernel
theorem dL_law_526 : decode cL_law 526 = .ok (.invokevirtual 71, 3) := by decide +kernel
theorem dL_law_529 : decode cL_law 529 = .ok (.if_icmp .eq 459, 3) := by decide +kernel
theorem dL_law_532 : decode cL_law 532 = .ok (.iconst 0, 1) := by decide +kernel
theorem dL_law_533 : decode cL_law 533 = .ok (.ireturn, 1) := by decide +kernel
theorem dL_law_534 : decode cL_law 534 = .ok (.aload_n 1, 1) := by decide +kernel
theorem dL_law_535 : decode cL_law 535 = .ok (.aload_n 0, 1) := by decide +kernel
theorem dL_law_536 : decode cL_law 536 = .ok (.iload_n 3, 1) := by decide +kernel
theorem dL_law_537 : decode cL_law 537 = .ok (.iconst 1, 1) := by decide +kernel
theorem dL_law_538 : decode cL_law 538 = .ok (.iadd, 1) := by decide +kernel
theorem dL_law_539 : decode cL_law 539 = .ok (.iaload, 1) := by decide +kernel
theorem dL_law_540 : decode cL_law 540 = .ok (.invokevirtual 72, 3) := by decide +kernel
theorem dL_law_543 : decode cL_law 543 = .ok (.aload_n 2, 1) := by decide +kernel
theorem dL_law_544 : decode cL_law 544 = .ok (.aload_n 0, 1) := by decide +kernel
theorem dL_law_545 : decode cL_law 545 = .ok (.iload_n 3, 1) := by decide +kernel
theorem dL_law_546 : decode cL_law 546 = .ok (.iconst 1, 1) := by decide +kernel
theorem dL_law_547 : decode cL_law 547 = .ok (.iadd, 1) := by decide +kernel
theorem dL_law_548 : decode cL_law 548 = .ok (.iaload, 1) := by decide +kernel
theorem dL_law_549 : decode cL_law 549 = .ok (.invokevirtual 75, 3) := by decide +kernel
theorem dL_law_552 : decode cL_law 552 = .ok (.if_icmp .eq 436, 3) := by decide +kernel
theorem dL_law_555 : decode cL_law 555 = .ok (.iconst 0, 1) := by decide +kernel
theorem dL_law_556 : decode cL_law 556 = .ok (.ireturn, 1) := by decide +kernel
theorem dL_law_557 : decode cL_law 557 = .ok (.aload_n 1, 1) := by decide +kernel
theorem dL_law_558 : decode cL_law 558 = .ok (.aload_n 0, 1) := by decide +kernel
theorem dL_law_559 : decode cL_law 559 = .ok (.iload_n 3, 1) := by decide +kernel
theorem dL_law_560 : decode cL_law 560 = .ok (.iconst 1, 1) := by decide +kernel
theorem dL_law_561 : decode cL_law 561 = .ok (.iadd, 1) := by decide +kernel
theorem dL_law_562 : decode cL_law 562 = .ok (.iaload, 1) := by decide +kernel
theorem dL_law_563 : decode cL_law 563 = .ok (.invokevirtual 76, 3) := by decide +kernel
theorem dL_law_566 : decode cL_law 566 = .ok (.aload_n 2, 1) := by decide +kernel
theorem dL_law_567 : decode cL_law 567 = .ok (.aload_n 0, 1) := by decide +kernel
theorem dL_law_568 : decode cL_law 568 = .ok (.iload_n 3, 1) := by decide +kernel
theorem dL_law_569 : decode cL_law 569 = .ok (.iconst 1, 1) := by decide +kernel
theorem dL_law_570 : decode cL_law 570 = .ok (.iadd, 1) := by decide +kernel
theorem dL_law_571 : decode cL_law 571 = .ok (.iaload, 1) := by decide +kernel
theorem dL_law_572 : decode cL_law 572 = .ok (.invokevirtual 79, 3) := by decide +kernel
theorem dL_law_575 : decode cL_law 575 = .ok (.if_icmp .eq 413, 3) := by decide +kernel
theorem dL_law_578 : decode cL_law 578 = .ok (.iconst 0, 1) := by decide +kernel
theorem dL_law_579 : decode cL_law 579 = .ok (.ireturn, 1) := by decide +kernel
theorem dL_law_580 : decode cL_law 580 = .ok (.aload_n 1, 1) := by decide +kernel
theorem dL_law_581 : decode cL_law 581 = .ok (.aload_n 0, 1) := by decide +kernel
theorem dL_law_582 : decode cL_law 582 = .ok (.iload_n 3, 1) := by decide +kernel
theorem dL_law_583 : decode cL_law 583 = .ok (.iconst 1, 1) := by decide +kernel
theorem dL_law_584 : decode cL_law 584 = .ok (.iadd, 1) := by decide +kernel
theorem dL_law_585 : decode cL_law 585 = .ok (.iaload, 1) := by decide +kernel
theorem dL_law_586 : decode cL_law 586 = .ok (.invokevirtual 80, 3) := by decide +kernel
theorem dL_law_589 : decode cL_law 589 = .ok (.aload_n 2, 1) := by decide +kernel
theorem dL_law_590 : decode cL_law 590 = .ok (.aload_n 0, 1) := by decide +kernel
theorem dL_law_591 : decode cL_law 591 = .ok (.iload_n 3, 1) := by decide +kernel
theorem dL_law_592 : decode cL_law 592 = .ok (.iconst 1, 1) := by decide +kernel
theorem dL_law_593 : decode cL_law 593 = .ok (.iadd, 1) := by decide +kernel
theorem dL_law_594 : decode cL_law 594 = .ok (.iaload, 1) := by decide +kernel
theorem dL_law_595 : decode cL_law 595 = .ok (.invokevirtual 83, 3) := by decide +kernel
theorem dL_law_598 : decode cL_law 598 = .ok (.if_icmp .eq 390, 3) := by decide +kernel
theorem dL_law_601 : decode cL_law 601 = .ok (.iconst 0, 1) := by decide +kernel
theorem dL_law_602 : decode cL_law 602 = .ok (.ireturn, 1) := by decide +kernel
theorem dL_law_603 : decode cL_law 603 = .ok (.aload_n 1, 1) := by decide +kernel
theorem dL_law_604 : decode cL_law 604 = .ok (.invokevirtual 84, 3) := by decide +kernel
theorem dL_law_607 : decode cL_law 607 = .ok (.aload_n 2, 1) := by decide +kernel
theorem dL_law_608 : decode cL_law 608 = .ok (.invokevirtual 87, 3) := by decide +kernel
theorem dL_law_611 : decode cL_law 611 = .ok (.if_icmp .eq 377, 3) := by decide +kernel
theorem dL_law_614 : decode cL_law 614 = .ok (.iconst 0, 1) := by decide +kernel
theorem dL_law_615 : decode cL_law 615 = .ok (.ireturn, 1) := by decide +kernel
theorem dL_law_616 : decode cL_law 616 = .ok (.aload_n 1, 1) := by decide +kernel
theorem dL_law_617 : decode cL_law 617 = .ok (.aload_n 0, 1) := by decide +kernel
theorem dL_law_618 : decode cL_law 618 = .ok (.iload_n 3, 1) := by decide +kernel
theorem dL_law_619 : decode cL_law 619 = .ok (.iconst 1, 1) := by decide +kernel
theorem dL_law_620 : decode cL_law 620 = .ok (.iadd, 1) := by decide +kernel
theorem dL_law_621 : decode cL_law 621 = .ok (.iaload, 1) := by decide +kernel
theorem dL_law_622 : decode cL_law 622 = .ok (.aload_n 0, 1) := by decide +kernel
theorem dL_law_623 : decode cL_law 623 = .ok (.iload_n 3, 1) := by decide +kernel
theorem dL_law_624 : decode cL_law 624 = .ok (.iconst 2, 1) := by decide +kernel
theorem dL_law_625 : decode cL_law 625 = .ok (.iadd, 1) := by decide +kernel
theorem dL_law_626 : decode cL_law 626 = .ok (.iaload, 1) := by decide +kernel
theorem dL_law_627 : decode cL_law 627 = .ok (.invokevirtual 88, 3) := by decide +kernel
theorem dL_law_630 : decode cL_law 630 = .ok (.aload_n 2, 1) := by decide +kernel
theorem dL_law_631 : decode cL_law 631 = .ok (.aload_n 0, 1) := by decide +kernel
theorem dL_law_632 : decode cL_law 632 = .ok (.iload_n 3, 1) := by decide +kernel
theorem dL_law_633 : decode cL_law 633 = .ok (.iconst 1, 1) := by decide +kernel
theorem dL_law_634 : decode cL_law 634 = .ok (.iadd, 1) := by decide +kernel
theorem dL_law_635 : decode cL_law 635 = .ok (.iaload, 1) := by decide +kernel
theorem dL_law_636 : decode cL_law 636 = .ok (.aload_n 0, 1) := by decide +kernel
theorem dL_law_637 : decode cL_law 637 = .ok (.iload_n 3, 1) := by decide +kernel
theorem dL_law_638 : decode cL_law 638 = .ok (.iconst 2, 1) := by decide +kernel
theorem dL_law_639 : decode cL_law 639 = .ok (.iadd, 1) := by decide +kernel
theorem dL_law_640 : decode cL_law 640 = .ok (.iaload, 1) := by decide +kernel
theorem dL_law_641 : decode cL_law 641 = .ok (.invokevirtual 91, 3) := by decide +kernel
theorem dL_law_644 : decode cL_law 644 = .ok (.if_icmp .eq 344, 3) := by decide +kernel
theorem dL_law_647 : decode cL_law 647 = .ok (.iconst 0, 1) := by decide +kernel
theorem dL_law_648 : decode cL_law 648 = .ok (.ireturn, 1) := by decide +kernel
theorem dL_law_649 : decode cL_law 649 = .ok (.aload_n 1, 1) := by decide +kernel
theorem dL_law_650 : decode cL_law 650 = .ok (.aload_n 0, 1) := by decide +kernel
theorem dL_law_651 : decode cL_law 651 = .ok (.iload_n 3, 1) := by decide +kernel
theorem dL_law_652 : decode cL_law 652 = .ok (.iconst 1, 1) := by decide +kernel
theorem dL_law_653 : decode cL_law 653 = .ok (.iadd, 1) := by decide +kernel
theorem dL_law_654 : decode cL_law 654 = .ok (.iaload, 1) := by decide +kernel
theorem dL_law_655 : decode cL_law 655 = .ok (.invokevirtual 92, 3) := by decide +kernel
theorem dL_law_658 : decode cL_law 658 = .ok (.aload_n 2, 1) := by decide +kernel
theorem dL_law_659 : decode cL_law 659 = .ok (.aload_n 0, 1) := by decide +kernel
theorem dL_law_660 : decode cL_law 660 = .ok (.iload_n 3, 1) := by decide +kernel
theorem dL_law_661 : decode cL_law 661 = .ok (.iconst 1, 1) := by decide +kernel
theorem dL_law_662 : decode cL_law 662 = .ok (.iadd, 1) := by decide +kernel
theorem dL_law_663 : decode cL_law 663 = .ok (.iaload, 1) := by decide +kernel
theorem dL_law_664 : decode cL_law 664 = .ok (.invokevirtual 95, 3) := by decide +kernel
theorem dL_law_667 : decode cL_law 667 = .ok (.if_icmp .eq 321, 3) := by decide +kernel
theorem dL_law_670 : decode cL_law 670 = .ok (.iconst 0, 1) := by decide +kernel
theorem dL_law_671 : decode cL_law 671 = .ok (.ireturn, 1) := by decide +kernel
theorem dL_law_672 : decode cL_law 672 = .ok (.aload_n 1, 1) := by decide +kernel
theorem dL_law_673 : decode cL_law 673 = .ok (.invokevirtual 96, 3) := by decide +kernel
theorem dL_law_676 : decode cL_law 676 = .ok (.aload_n 2, 1) := by decide +kernel
theorem dL_law_677 : decode cL_law 677 = .ok (.invokevirtual 99, 3) := by decide +kernel
theorem dL_law_680 : decode cL_law 680 = .ok (.if_icmp .eq 308, 3) := by decide +kernel
theorem dL_law_683 : decode cL_law 683 = .ok (.iconst 0, 1) := by decide +kernel
theorem dL_law_684 : decode cL_law 684 = .ok (.ireturn, 1) := by decide +kernel
theorem dL_law_685 : decode cL_law 685 = .ok (.aload_n 1, 1) := by decide +kernel
theorem dL_law_686 : decode cL_law 686 = .ok (.invokevirtual 100, 3) := by decide +kernel
theorem dL_law_689 : decode cL_law 689 = .ok (.aload_n 2, 1) := by decide +kernel
theorem dL_law_690 : decode cL_law 690 = .ok (.invokevirtual 103, 3) := by decide +kernel
theorem dL_law_693 : decode cL_law 693 = .ok (.if_icmp .eq 295, 3) := by decide +kernel
theorem dL_law_696 : decode cL_law 696 = .ok (.iconst 0, 1) := by decide +kernel
theorem dL_law_697 : decode cL_law 697 = .ok (.ireturn, 1) := by decide +kernel
theorem dL_law_698 : decode cL_law 698 = .ok (.aload_n 1, 1) := by decide +kernel
theorem dL_law_699 : decode cL_law 699 = .ok (.aload_n 0, 1) := by decide +kernel
theorem dL_law_700 : decode cL_law 700 = .ok (.iload_n 3, 1) := by decide +kernel
theorem dL_law_701 : decode cL_law 701 = .ok (.iconst 1, 1) := by decide +kernel
theorem dL_law_702 : decode cL_law 702 = .ok (.iadd, 1) := by decide +kernel
theorem dL_law_703 : decode cL_law 703 = .ok (.iaload, 1) := by decide +kernel
theorem dL_law_704 : decode cL_law 704 = .ok (.aload_n 0, 1) := by decide +kernel
theorem dL_law_705 : decode cL_law 705 = .ok (.iload_n 3, 1) := by decide +kernel
theorem dL_law_706 : decode cL_law 706 = .ok (.iconst 2, 1) := by decide +kernel
theorem dL_law_707 : decode cL_law 707 = .ok (.iadd, 1) := by decide +kernel
theorem dL_law_708 : decode cL_law 708 = .ok (.iaload, 1) := by decide +kernel
theorem dL_law_709 : decode cL_law 709 = .ok (.aload_n 0, 1) := by decide +kernel
theorem dL_law_710 : decode cL_law 710 = .ok (.iload_n 3, 1) := by decide +kernel
theorem dL_law_711 : decode cL_law 711 = .ok (.iconst 3, 1) := by decide +kernel
theorem dL_law_712 : decode cL_law 712 = .ok (.iadd, 1) := by decide +kernel
theorem dL_law_713 : decode cL_law 713 = .ok (.iaload, 1) := by decide +kernel
theorem dL_law_714 : decode cL_law 714 = .ok (.aload_n 0, 1) := by decide +kernel
theorem dL_law_715 : decode cL_law 715 = .ok (.iload_n 3, 1) := by decide +kernel
theorem dL_law_716 : decode cL_law 716 = .ok (.iconst 4, 1) := by decide +kernel
theorem dL_law_717 : decode cL_law 717 = .ok (.iadd, 1) := by decide +kernel
theorem dL_law_718 : decode cL_law 718 = .ok (.iaload, 1) := by decide +kernel
theorem dL_law_719 : decode cL_law 719 = .ok (.invokevirtual 104, 3) := by decide +kernel
theorem dL_law_722 : decode cL_law 722 = .ok (.aload_n 2, 1) := by decide +kernel
theorem dL_law_723 : decode cL_law 723 = .ok (.aload_n 0, 1) := by decide +kernel
theorem dL_law_724 : decode cL_law 724 = .ok (.iload_n 3, 1) := by decide +kernel
theorem dL_law_725 : decode cL_law 725 = .ok (.iconst 1, 1) := by decide +kernel
theorem dL_law_726 : decode cL_law 726 = .ok (.iadd, 1) := by decide +kernel
theorem dL_law_727 : decode cL_law 727 = .ok (.iaload, 1) := by decide +kernel
theorem dL_law_728 : decode cL_law 728 = .ok (.aload_n 0, 1) := by decide +kernel
theorem dL_law_729 : decode cL_law 729 = .ok (.iload_n 3, 1) := by decide +kernel
theorem dL_law_730 : decode cL_law 730 = .ok (.iconst 2, 1) := by decide +kernel
theorem dL_law_731 : decode cL_law 731 = .ok (.iadd, 1) := by decide +kernel
theorem dL_law_732 : decode cL_law 732 = .ok (.iaload, 1) := by decide +kernel
theorem dL_law_733 : decode cL_law 733 = .ok (.aload_n 0, 1) := by decide +kernel
theorem dL_law_734 : decode cL_law 734 = .ok (.iload_n 3, 1) := by decide +kernel
theorem dL_law_735 : decode cL_law 735 = .ok (.iconst 3, 1) := by decide +kernel
theorem dL_law_736 : decode cL_law 736 = .ok (.iadd, 1) := by decide +kernel
theorem dL_law_737 : decode cL_law 737 = .ok (.iaload, 1) := by decide +kernel
theorem dL_law_738 : decode cL_law 738 = .ok (.aload_n 0, 1) := by decide +kernel
theorem dL_law_739 : decode cL_law 739 = .ok (.iload_n 3, 1) := by decide +kernel
theorem dL_law_740 : decode cL_law 740 = .ok (.iconst 4, 1) := by decide +kernel
theorem dL_law_741 : decode cL_law 741 = .ok (.iadd, 1) := by decide +kernel
theorem dL_law_742 : decode cL_law 742 = .ok (.iaload, 1) := by decide +kernel
theorem dL_law_743 : decode cL_law 743 = .ok (.invokevirtual 108, 3) := by decide +kernel
theorem dL_law_746 : decode cL_law 746 = .ok (.if_icmp .eq 242, 3) := by decide +kernel
theorem dL_law_749 : decode cL_law 749 = .ok (.iconst 0, 1) := by decide +kernel
theorem dL_law_750 : decode cL_law 750 = .ok (.ireturn, 1) := by decide +kernel
theorem dL_law_751 : decode cL_law 751 = .ok (.aload_n 1, 1) := by decide +kernel
theorem dL_law_752 : decode cL_law 752 = .ok (.aload_n 0, 1) := by decide +kernel
theorem dL_law_753 : decode cL_law 753 = .ok (.iload_n 3, 1) := by decide +kernel
theorem dL_law_754 : decode cL_law 754 = .ok (.iconst 1, 1) := by decide +kernel
theorem dL_law_755 : decode cL_law 755 = .ok (.iadd, 1) := by decide +kernel
theorem dL_law_756 : decode cL_law 756 = .ok (.iaload, 1) := by decide +kernel
theorem dL_law_757 : decode cL_law 757 = .ok (.invokevirtual 109, 3) := by decide +kernel
theorem dL_law_760 : decode cL_law 760 = .ok (.aload_n 2, 1) := by decide +kernel
theorem dL_law_761 : decode cL_law 761 = .ok (.aload_n 0, 1) := by decide +kernel
theorem dL_law_762 : decode cL_law 762 = .ok (.iload_n 3, 1) := by decide +kernel
theorem dL_law_763 : decode cL_law 763 = .ok (.iconst 1, 1) := by decide +kernel
theorem dL_law_764 : decode cL_law 764 = .ok (.iadd, 1) := by decide +kernel
theorem dL_law_765 : decode cL_law 765 = .ok (.iaload, 1) := by decide +kernel
theorem dL_law_766 : decode cL_law 766 = .ok (.invokevirtual 112, 3) := by decide +kernel
theorem dL_law_769 : decode cL_law 769 = .ok (.if_icmp .eq 219, 3) := by decide +kernel
theorem dL_law_772 : decode cL_law 772 = .ok (.iconst 0, 1) := by decide +kernel
theorem dL_law_773 : decode cL_law 773 = .ok (.ireturn, 1) := by decide +kernel
theorem dL_law_774 : decode cL_law 774 = .ok (.aload_n 1, 1) := by decide +kernel
theorem dL_law_775 : decode cL_law 775 = .ok (.aload_n 0, 1) := by decide +kernel
theorem dL_law_776 : decode cL_law 776 = .ok (.iload_n 3, 1) := by decide +kernel
theorem dL_law_777 : decode cL_law 777 = .ok (.iconst 1, 1) := by decide +kernel
theorem dL_law_778 : decode cL_law 778 = .ok (.iadd, 1) := by decide +kernel
theorem dL_law_779 : decode cL_law 779 = .ok (.iaload, 1) := by decide +kernel
theorem dL_law_780 : decode cL_law 780 = .ok (.invokevirtual 113, 3) := by decide +kernel
theorem dL_law_783 : decode cL_law 783 = .ok (.aload_n 2, 1) := by decide +kernel
theorem dL_law_784 : decode cL_law 784 = .ok (.aload_n 0, 1) := by decide +kernel
theorem dL_law_785 : decode cL_law 785 = .ok (.iload_n 3, 1) := by decide +kernel
theorem dL_law_786 : decode cL_law 786 = .ok (.iconst 1, 1) := by decide +kernel
theorem dL_law_787 : decode cL_law 787 = .ok (.iadd, 1) := by decide +kernel
theorem dL_law_788 : decode cL_law 788 = .ok (.iaload, 1) := by decide +kernel
theorem dL_law_789 : decode cL_law 789 = .ok (.invokevirtual 116, 3) := by decide +kernel
theorem dL_law_792 : decode cL_law 792 = .ok (.if_icmp .eq 196, 3) := by decide +kernel
theorem dL_law_795 : decode cL_law 795 = .ok (.iconst 0, 1) := by decide +kernel
theorem dL_law_796 : decode cL_law 796 = .ok (.ireturn, 1) := by decide +kernel
theorem dL_law_797 : decode cL_law 797 = .ok (.aload_n 1, 1) := by decide +kernel
theorem dL_law_798 : decode cL_law 798 = .ok (.aload_n 0, 1) := by decide +kernel
theorem dL_law_799 : decode cL_law 799 = .ok (.iload_n 3, 1) := by decide +kernel
theorem dL_law_800 : decode cL_law 800 = .ok (.iconst 1, 1) := by decide +kernel
theorem dL_law_801 : decode cL_law 801 = .ok (.iadd, 1) := by decide +kernel
theorem dL_law_802 : decode cL_law 802 = .ok (.iaload, 1) := by decide +kernel
theorem dL_law_803 : decode cL_law 803 = .ok (.aload_n 0, 1) := by decide +kernel
theorem dL_law_804 : decode cL_law 804 = .ok (.iload_n 3, 1) := by decide +kernel
theorem dL_law_805 : decode cL_law 805 = .ok (.iconst 2, 1) := by decide +kernel
theorem dL_law_806 : decode cL_law 806 = .ok (.iadd, 1) := by decide +kernel
theorem dL_law_807 : decode cL_law 807 = .ok (.iaload, 1) := by decide +kernel
theorem dL_law_808 : decode cL_law 808 = .ok (.aload_n 0, 1) := by decide +kernel
theorem dL_law_809 : decode cL_law 809 = .ok (.iload_n 3, 1) := by decide +kernel
theorem dL_law_810 : decode cL_law 810 = .ok (.iconst 3, 1) := by decide +kernel
theorem dL_law_811 : decode cL_law 811 = .ok (.iadd, 1) := by decide +kernel
theorem dL_law_812 : decode cL_law 812 = .ok (.iaload, 1) := by decide +kernel
theorem dL_law_813 : decode cL_law 813 = .ok (.aload_n 0, 1) := by decide +kernel
theorem dL_law_814 : decode cL_law 814 = .ok (.iload_n 3, 1) := by decide +kernel
theorem dL_law_815 : decode cL_law 815 = .ok (.iconst 4, 1) := by decide +kernel
theorem dL_law_816 : decode cL_law 816 = .ok (.iadd, 1) := by decide +kernel
theorem dL_law_817 : decode cL_law 817 = .ok (.iaload, 1) := by decide +kernel
theorem dL_law_818 : decode cL_law 818 = .ok (.aload_n 0, 1) := by decide +kernel
theorem dL_law_819 : decode cL_law 819 = .ok (.iload_n 3, 1) := by decide +kernel
theorem dL_law_820 : decode cL_law 820 = .ok (.iconst 5, 1) := by decide +kernel
theorem dL_law_821 : decode cL_law 821 = .ok (.iadd, 1) := by decide +kernel
theorem dL_law_822 : decode cL_law 822 = .ok (.iaload, 1) := by decide +kernel
theorem dL_law_823 : decode cL_law 823 = .ok (.aload_n 0, 1) := by decide +kernel
theorem dL_law_824 : decode cL_law 824 = .ok (.iload_n 3, 1) := by decide +kernel
theorem dL_law_825 : decode cL_law 825 = .ok (.bipush 6, 2) := by decide +kernel
theorem dL_law_827 : decode cL_law 827 = .ok (.iadd, 1) := by decide +kernel
theorem dL_law_828 : decode cL_law 828 = .ok (.iaload, 1) := by decide +kernel
theorem dL_law_829 : decode cL_law 829 = .ok (.invokevirtual 117, 3) := by decide +kernel
theorem dL_law_832 : decode cL_law 832 = .ok (.aload_n 2, 1) := by decide +kernel
theorem dL_law_833 : decode cL_law 833 = .ok (.aload_n 0, 1) := by decide +kernel
theorem dL_law_834 : decode cL_law 834 = .ok (.iload_n 3, 1) := by decide +kernel
theorem dL_law_835 : decode cL_law 835 = .ok (.iconst 1, 1) := by decide +kernel
theorem dL_law_836 : decode cL_law 836 = .ok (.iadd, 1) := by decide +kernel
theorem dL_law_837 : decode cL_law 837 = .ok (.iaload, 1) := by decide +kernel
theorem dL_law_838 : decode cL_law 838 = .ok (.aload_n 0, 1) := by decide +kernel
theorem dL_law_839 : decode cL_law 839 = .ok (.iload_n 3, 1) := by decide +kernel
theorem dL_law_840 : decode cL_law 840 = .ok (.iconst 2, 1) := by decide +kernel
theorem dL_law_841 : decode cL_law 841 = .ok (.iadd, 1) := by decide +kernel
theorem dL_law_842 : decode cL_law 842 = .ok (.iaload, 1) := by decide +kernel
theorem dL_law_843 : decode cL_law 843 = .ok (.aload_n 0, 1) := by decide +kernel
theorem dL_law_844 : decode cL_law 844 = .ok (.iload_n 3, 1) := by decide +kernel
theorem dL_law_845 : decode cL_law 845 = .ok (.iconst 3, 1) := by decide +kernel
theorem dL_law_846 : decode cL_law 846 = .ok (.iadd, 1) := by decide +kernel
theorem dL_law_847 : decode cL_law 847 = .ok (.iaload, 1) := by decide +kernel
theorem dL_law_848 : decode cL_law 848 = .ok (.aload_n 0, 1) := by decide +kernel
theorem dL_law_849 : decode cL_law 849 = .ok (.iload_n 3, 1) := by decide +kernel
theorem dL_law_850 : decode cL_law 850 = .ok (.iconst 4, 1) := by decide +kernel
theorem dL_law_851 : decode cL_law 851 = .ok (.iadd, 1) := by decide +kernel
theorem dL_law_852 : decode cL_law 852 = .ok (.iaload, 1) := by decide +kernel
theorem dL_law_853 : decode cL_law 853 = .ok (.aload_n 0, 1) := by decide +kernel
theorem dL_law_854 : decode cL_law 854 = .ok (.iload_n 3, 1) := by decide +kernel
theorem dL_law_855 : decode cL_law 855 = .ok (.iconst 5, 1) := by decide +kernel
theorem dL_law_856 : decode cL_law 856 = .ok (.iadd, 1) := by decide +kernel
theorem dL_law_857 : decode cL_law 857 = .ok (.iaload, 1) := by decide +kernel
theorem dL_law_858 : decode cL_law 858 = .ok (.aload_n 0, 1) := by decide +kernel
theorem dL_law_859 : decode cL_law 859 = .ok (.iload_n 3, 1) := by decide +kernel
theorem dL_law_860 : decode cL_law 860 = .ok (.bipush 6, 2) := by decide +kernel
theorem dL_law_862 : decode cL_law 862 = .ok (.iadd, 1) := by decide +kernel
theorem dL_law_863 : decode cL_law 863 = .ok (.iaload, 1) := by decide +kernel
theorem dL_law_864 : decode cL_law 864 = .ok (.invokevirtual 121, 3) := by decide +kernel
theorem dL_law_867 : decode cL_law 867 = .ok (.if_icmp .eq 121, 3) := by decide +kernel
theorem dL_law_870 : decode cL_law 870 = .ok (.iconst 0, 1) := by decide +kernel
theorem dL_law_871 : decode cL_law 871 = .ok (.ireturn, 1) := by decide +kernel
theorem dL_law_872 : decode cL_law 872 = .ok (.aload_n 1, 1) := by decide +kernel
theorem dL_law_873 : decode cL_law 873 = .ok (.aload_n 0, 1) := by decide +kernel
theorem dL_law_874 : decode cL_law 874 = .ok (.iload_n 3, 1) := by decide +kernel
theorem dL_law_875 : decode cL_law 875 = .ok (.iconst 1, 1) := by decide +kernel
theorem dL_law_876 : decode cL_law 876 = .ok (.iadd, 1) := by decide +kernel
theorem dL_law_877 : decode cL_law 877 = .ok (.iaload, 1) := by decide +kernel
theorem dL_law_878 : decode cL_law 878 = .ok (.aload_n 0, 1) := by decide +kernel
theorem dL_law_879 : decode cL_law 879 = .ok (.iload_n 3, 1) := by decide +kernel
theorem dL_law_880 : decode cL_law 880 = .ok (.iconst 2, 1) := by decide +kernel
theorem dL_law_881 : decode cL_law 881 = .ok (.iadd, 1) := by decide +kernel
theorem dL_law_882 : decode cL_law 882 = .ok (.iaload, 1) := by decide +kernel
theorem dL_law_883 : decode cL_law 883 = .ok (.invokevirtual 122, 3) := by decide +kernel
theorem dL_law_886 : decode cL_law 886 = .ok (.aload_n 2, 1) := by decide +kernel
theorem dL_law_887 : decode cL_law 887 = .ok (.aload_n 0, 1) := by decide +kernel
theorem dL_law_888 : decode cL_law 888 = .ok (.iload_n 3, 1) := by decide +kernel
theorem dL_law_889 : decode cL_law 889 = .ok (.iconst 1, 1) := by decide +kernel
theorem dL_law_890 : decode cL_law 890 = .ok (.iadd, 1) := by decide +kernel
theorem dL_law_891 : decode cL_law 891 = .ok (.iaload, 1) := by decide +kernel
theorem dL_law_892 : decode cL_law 892 = .ok (.aload_n 0, 1) := by decide +kernel
theorem dL_law_893 : decode cL_law 893 = .ok (.iload_n 3, 1) := by decide +kernel
theorem dL_law_894 : decode cL_law 894 = .ok (.iconst 2, 1) := by decide +kernel
theorem dL_law_895 : decode cL_law 895 = .ok (.iadd, 1) := by decide +kernel
theorem dL_law_896 : decode cL_law 896 = .ok (.iaload, 1) := by decide +kernel
theorem dL_law_897 : decode cL_law 897 = .ok (.invokevirtual 125, 3) := by decide +kernel
theorem dL_law_900 : decode cL_law 900 = .ok (.if_icmp .eq 88, 3) := by decide +kernel
theorem dL_law_903 : decode cL_law 903 = .ok (.iconst 0, 1) := by decide +kernel
theorem dL_law_904 : decode cL_law 904 = .ok (.ireturn, 1) := by decide +kernel
theorem dL_law_905 : decode cL_law 905 = .ok (.aload_n 1, 1) := by decide +kernel
theorem dL_law_906 : decode cL_law 906 = .ok (.aload_n 0, 1) := by decide +kernel
theorem dL_law_907 : decode cL_law 907 = .ok (.iload_n 3, 1) := by decide +kernel
theorem dL_law_908 : decode cL_law 908 = .ok (.iconst 1, 1) := by decide +kernel
theorem dL_law_909 : decode cL_law 909 = .ok (.iadd, 1) := by decide +kernel
theorem dL_law_910 : decode cL_law 910 = .ok (.iaload, 1) := by decide +kernel
theorem dL_law_911 : decode cL_law 911 = .ok (.invokevirtual 126, 3) := by decide +kernel
theorem dL_law_914 : decode cL_law 914 = .ok (.aload_n 2, 1) := by decide +kernel
theorem dL_law_915 : decode cL_law 915 = .ok (.aload_n 0, 1) := by decide +kernel
theorem dL_law_916 : decode cL_law 916 = .ok (.iload_n 3, 1) := by decide +kernel
theorem dL_law_917 : decode cL_law 917 = .ok (.iconst 1, 1) := by decide +kernel
theorem dL_law_918 : decode cL_law 918 = .ok (.iadd, 1) := by decide +kernel
theorem dL_law_919 : decode cL_law 919 = .ok (.iaload, 1) := by decide +kernel
theorem dL_law_920 : decode cL_law 920 = .ok (.invokevirtual 129, 3) := by decide +kernel
theorem dL_law_923 : decode cL_law 923 = .ok (.if_icmp .eq 65, 3) := by decide +kernel
theorem dL_law_926 : decode cL_law 926 = .ok (.iconst 0, 1) := by decide +kernel
theorem dL_law_927 : decode cL_law 927 = .ok (.ireturn, 1) := by decide +kernel
theorem dL_law_928 : decode cL_law 928 = .ok (.aload_n 1, 1) := by decide +kernel
theorem dL_law_929 : decode cL_law 929 = .ok (.aload_n 0, 1) := by decide +kernel
theorem dL_law_930 : decode cL_law 930 = .ok (.iload_n 3, 1) := by decide +kernel
theorem dL_law_931 : decode cL_law 931 = .ok (.iconst 1, 1) := by decide +kernel
theorem dL_law_932 : decode cL_law 932 = .ok (.iadd, 1) := by decide +kernel
theorem dL_law_933 : decode cL_law 933 = .ok (.iaload, 1) := by decide +kernel
theorem dL_law_934 : decode cL_law 934 = .ok (.invokevirtual 130, 3) := by decide +kernel
theorem dL_law_937 : decode cL_law 937 = .ok (.aload_n 2, 1) := by decide +kernel
theorem dL_law_938 : decode cL_law 938 = .ok (.aload_n 0, 1) := by decide +kernel
theorem dL_law_939 : decode cL_law 939 = .ok (.iload_n 3, 1) := by decide +kernel
theorem dL_law_940 : decode cL_law 940 = .ok (.iconst 1, 1) := by decide +kernel
theorem dL_law_941 : decode cL_law 941 = .ok (.iadd, 1) := by decide +kernel
theorem dL_law_942 : decode cL_law 942 = .ok (.iaload, 1) := by decide +kernel
theorem dL_law_943 : decode cL_law 943 = .ok (.invokevirtual 133, 3) := by decide +kernel
theorem dL_law_946 : decode cL_law 946 = .ok (.if_icmp .eq 42, 3) := by decide +kernel
theorem dL_law_949 : decode cL_law 949 = .ok (.iconst 0, 1) := by decide +kernel
theorem dL_law_950 : decode cL_law 950 = .ok (.ireturn, 1) := by decide +kernel
theorem dL_law_951 : decode cL_law 951 = .ok (.aload_n 1, 1) := by decide +kernel
theorem dL_law_952 : decode cL_law 952 = .ok (.aload_n 0, 1) := by decide +kernel
theorem dL_law_953 : decode cL_law 953 = .ok (.iload_n 3, 1) := by decide +kernel
theorem dL_law_954 : decode cL_law 954 = .ok (.iconst 1, 1) := by decide +kernel
theorem dL_law_955 : decode cL_law 955 = .ok (.iadd, 1) := by decide +kernel
theorem dL_law_956 : decode cL_law 956 = .ok (.iaload, 1) := by decide +kernel
theorem dL_law_957 : decode cL_law 957 = .ok (.invokevirtual 134, 3) := by decide +kernel
theorem dL_law_960 : decode cL_law 960 = .ok (.aload_n 2, 1) := by decide +kernel
theorem dL_law_961 : decode cL_law 961 = .ok (.aload_n 0, 1) := by decide +kernel
theorem dL_law_962 : decode cL_law 962 = .ok (.iload_n 3, 1) := by decide +kernel
theorem dL_law_963 : decode cL_law 963 = .ok (.iconst 1, 1) := by decide +kernel
theorem dL_law_964 : decode cL_law 964 = .ok (.iadd, 1) := by decide +kernel
theorem dL_law_965 : decode cL_law 965 = .ok (.iaload, 1) := by decide +kernel
theorem dL_law_966 : decode cL_law 966 = .ok (.invokevirtual 137, 3) := by decide +kernel
theorem dL_law_969 : decode cL_law 969 = .ok (.if_icmp .eq 19, 3) := by decide +kernel
theorem dL_law_972 : decode cL_law 972 = .ok (.iconst 0, 1) := by decide +kernel
theorem dL_law_973 : decode cL_law 973 = .ok (.ireturn, 1) := by decide +kernel
theorem dL_law_974 : decode cL_law 974 = .ok (.aload_n 1, 1) := by decide +kernel
theorem dL_law_975 : decode cL_law 975 = .ok (.invokevirtual 138, 3) := by decide +kernel
theorem dL_law_978 : decode cL_law 978 = .ok (.aload_n 2, 1) := by decide +kernel
theorem dL_law_979 : decode cL_law 979 = .ok (.invokevirtual 142, 3) := by decide +kernel
theorem dL_law_982 : decode cL_law 982 = .ok (.lcmp, 1) := by decide +kernel
theorem dL_law_983 : decode cL_law 983 = .ok (.ifCond .eq 5, 3) := by decide +kernel
theorem dL_law_986 : decode cL_law 986 = .ok (.iconst 0, 1) := by decide +kernel
theorem dL_law_987 : decode cL_law 987 = .ok (.ireturn, 1) := by decide +kernel
theorem dL_law_988 : decode cL_law 988 = .ok (.iinc 3 7, 3) := by decide +kernel
theorem dL_law_991 : decode cL_law 991 = .ok (.goto (-973), 3) := by decide +kernel
theorem dL_law_994 : decode cL_law 994 = .ok (.iconst 1, 1) := by decide +kernel
theorem dL_law_995 : decode cL_law 995 = .ok (.ireturn, 1) := by decide +kernel
end
