section
-- ===== PART A: goes FIRST, ahead of the names: the tables' words, and 'selects' of the private methods out of them =====
/-- a private method of a class that the tables say can be made, by its rows of tables_1 -/
def lw_okq (q : MethodName × Nat) : Prop := (q.1.cls ≠ "java/lang/invoke/MethodHandle" ∧ q.1.cls ≠ "java/lang/invoke/VarHandle") ∧ Cond.instantiable q.1.cls q.2 ∈ tables_1 ∧ Cond.privateMethod q.1 ∈ tables_1 ∧ Cond.instanceMethod q.1 ∈ tables_1
theorem lw_p0 : lw_okq (⟨"TransformRows$Closure", "restart", "()V"⟩, 4) := ⟨⟨by decide +kernel, by decide +kernel⟩, List.mem_of_getElem? (i := 140) (by decide +kernel), List.mem_of_getElem? (i := 148) (by decide +kernel), List.mem_of_getElem? (i := 149) (by decide +kernel)⟩
theorem lw_p1 : lw_okq (⟨"TransformRows$Shelf", "isAt", "(I[J)Z"⟩, 4) := ⟨⟨by decide +kernel, by decide +kernel⟩, List.mem_of_getElem? (i := 24) (by decide +kernel), List.mem_of_getElem? (i := 167) (by decide +kernel), List.mem_of_getElem? (i := 168) (by decide +kernel)⟩
theorem lw_p2 : lw_okq (⟨"TransformRows", "keepTriple", "(IIII)I"⟩, 17) := ⟨⟨by decide +kernel, by decide +kernel⟩, List.mem_of_getElem? (i := 16) (by decide +kernel), List.mem_of_getElem? (i := 245) (by decide +kernel), List.mem_of_getElem? (i := 246) (by decide +kernel)⟩
theorem lw_p3 : lw_okq (⟨"TransformRows", "keepGiven", "(I[J)I"⟩, 17) := ⟨⟨by decide +kernel, by decide +kernel⟩, List.mem_of_getElem? (i := 16) (by decide +kernel), List.mem_of_getElem? (i := 249) (by decide +kernel), List.mem_of_getElem? (i := 250) (by decide +kernel)⟩
theorem lw_p4 : lw_okq (⟨"TransformRows", "keepObject", "(I[J)I"⟩, 17) := ⟨⟨by decide +kernel, by decide +kernel⟩, List.mem_of_getElem? (i := 16) (by decide +kernel), List.mem_of_getElem? (i := 257) (by decide +kernel), List.mem_of_getElem? (i := 258) (by decide +kernel)⟩
theorem lw_p5 : lw_okq (⟨"TransformRows", "crossRatio", "(I)J"⟩, 17) := ⟨⟨by decide +kernel, by decide +kernel⟩, List.mem_of_getElem? (i := 16) (by decide +kernel), List.mem_of_getElem? (i := 338) (by decide +kernel), List.mem_of_getElem? (i := 339) (by decide +kernel)⟩
theorem lw_p6 : lw_okq (⟨"TransformRows$Maker", "buildShift", "([J)I"⟩, 7) := ⟨⟨by decide +kernel, by decide +kernel⟩, List.mem_of_getElem? (i := 64) (by decide +kernel), List.mem_of_getElem? (i := 381) (by decide +kernel), List.mem_of_getElem? (i := 382) (by decide +kernel)⟩
theorem lw_p7 : lw_okq (⟨"TransformRows$Maker", "areNear", "(I)Z"⟩, 7) := ⟨⟨by decide +kernel, by decide +kernel⟩, List.mem_of_getElem? (i := 64) (by decide +kernel), List.mem_of_getElem? (i := 385) (by decide +kernel), List.mem_of_getElem? (i := 386) (by decide +kernel)⟩
theorem lw_p8 : lw_okq (⟨"TransformRows$Maker", "areAll", "(II)Z"⟩, 7) := ⟨⟨by decide +kernel, by decide +kernel⟩, List.mem_of_getElem? (i := 64) (by decide +kernel), List.mem_of_getElem? (i := 389) (by decide +kernel), List.mem_of_getElem? (i := 390) (by decide +kernel)⟩
theorem lw_p9 : lw_okq (⟨"TransformRows$Maker", "buildTurn", "(JJ[J)I"⟩, 7) := ⟨⟨by decide +kernel, by decide +kernel⟩, List.mem_of_getElem? (i := 64) (by decide +kernel), List.mem_of_getElem? (i := 397) (by decide +kernel), List.mem_of_getElem? (i := 398) (by decide +kernel)⟩
theorem lw_p10 : lw_okq (⟨"TransformRows$Maker", "buildGlide", "(JJ[J)I"⟩, 7) := ⟨⟨by decide +kernel, by decide +kernel⟩, List.mem_of_getElem? (i := 64) (by decide +kernel), List.mem_of_getElem? (i := 402) (by decide +kernel), List.mem_of_getElem? (i := 403) (by decide +kernel)⟩
theorem lw_p11 : lw_okq (⟨"TransformRows$Maker", "buildStretch", "(JJ[J)I"⟩, 7) := ⟨⟨by decide +kernel, by decide +kernel⟩, List.mem_of_getElem? (i := 64) (by decide +kernel), List.mem_of_getElem? (i := 407) (by decide +kernel), List.mem_of_getElem? (i := 408) (by decide +kernel)⟩
theorem lw_p12 : lw_okq (⟨"TransformRows$Maker", "buildLikeness", "([J)I"⟩, 7) := ⟨⟨by decide +kernel, by decide +kernel⟩, List.mem_of_getElem? (i := 64) (by decide +kernel), List.mem_of_getElem? (i := 411) (by decide +kernel), List.mem_of_getElem? (i := 412) (by decide +kernel)⟩
theorem lw_p13 : lw_okq (⟨"TransformRows$Maker", "buildAffine", "([J)I"⟩, 7) := ⟨⟨by decide +kernel, by decide +kernel⟩, List.mem_of_getElem? (i := 64) (by decide +kernel), List.mem_of_getElem? (i := 415) (by decide +kernel), List.mem_of_getElem? (i := 416) (by decide +kernel)⟩
theorem lw_p14 : lw_okq (⟨"TransformRows$Maker", "findSides", "(I[[J)Z"⟩, 7) := ⟨⟨by decide +kernel, by decide +kernel⟩, List.mem_of_getElem? (i := 64) (by decide +kernel), List.mem_of_getElem? (i := 419) (by decide +kernel), List.mem_of_getElem? (i := 420) (by decide +kernel)⟩
theorem lw_p15 : lw_okq (⟨"TransformRows$Maker", "putWeighted", "(I[J)V"⟩, 7) := ⟨⟨by decide +kernel, by decide +kernel⟩, List.mem_of_getElem? (i := 64) (by decide +kernel), List.mem_of_getElem? (i := 425) (by decide +kernel), List.mem_of_getElem? (i := 426) (by decide +kernel)⟩
def lw_privs_1 : List (MethodName × Nat) := [(⟨"TransformRows$Closure", "restart", "()V"⟩, 4), (⟨"TransformRows$Shelf", "isAt", "(I[J)Z"⟩, 4), (⟨"TransformRows", "keepTriple", "(IIII)I"⟩, 17), (⟨"TransformRows", "keepGiven", "(I[J)I"⟩, 17), (⟨"TransformRows", "keepObject", "(I[J)I"⟩, 17), (⟨"TransformRows", "crossRatio", "(I)J"⟩, 17), (⟨"TransformRows$Maker", "buildShift", "([J)I"⟩, 7), (⟨"TransformRows$Maker", "areNear", "(I)Z"⟩, 7), (⟨"TransformRows$Maker", "areAll", "(II)Z"⟩, 7), (⟨"TransformRows$Maker", "buildTurn", "(JJ[J)I"⟩, 7), (⟨"TransformRows$Maker", "buildGlide", "(JJ[J)I"⟩, 7), (⟨"TransformRows$Maker", "buildStretch", "(JJ[J)I"⟩, 7), (⟨"TransformRows$Maker", "buildLikeness", "([J)I"⟩, 7), (⟨"TransformRows$Maker", "buildAffine", "([J)I"⟩, 7), (⟨"TransformRows$Maker", "findSides", "(I[[J)Z"⟩, 7), (⟨"TransformRows$Maker", "putWeighted", "(I[J)V"⟩, 7)]
theorem lw_r1 : ∀ q ∈ lw_privs_1, lw_okq q := List.forall_mem_cons.mpr ⟨lw_p0, List.forall_mem_cons.mpr ⟨lw_p1, List.forall_mem_cons.mpr ⟨lw_p2, List.forall_mem_cons.mpr ⟨lw_p3, List.forall_mem_cons.mpr ⟨lw_p4, List.forall_mem_cons.mpr ⟨lw_p5, List.forall_mem_cons.mpr ⟨lw_p6, List.forall_mem_cons.mpr ⟨lw_p7, List.forall_mem_cons.mpr ⟨lw_p8, List.forall_mem_cons.mpr ⟨lw_p9, List.forall_mem_cons.mpr ⟨lw_p10, List.forall_mem_cons.mpr ⟨lw_p11, List.forall_mem_cons.mpr ⟨lw_p12, List.forall_mem_cons.mpr ⟨lw_p13, List.forall_mem_cons.mpr ⟨lw_p14, List.forall_mem_cons.mpr ⟨lw_p15, fun _ h => absurd h List.not_mem_nil⟩⟩⟩⟩⟩⟩⟩⟩⟩⟩⟩⟩⟩⟩⟩⟩
theorem lw_p16 : lw_okq (⟨"TransformRows$Maker", "buildProjective", "([J)I"⟩, 7) := ⟨⟨by decide +kernel, by decide +kernel⟩, List.mem_of_getElem? (i := 64) (by decide +kernel), List.mem_of_getElem? (i := 429) (by decide +kernel), List.mem_of_getElem? (i := 430) (by decide +kernel)⟩
theorem lw_p17 : lw_okq (⟨"TransformRows$Maker", "findWeights", "()Z"⟩, 7) := ⟨⟨by decide +kernel, by decide +kernel⟩, List.mem_of_getElem? (i := 64) (by decide +kernel), List.mem_of_getElem? (i := 433) (by decide +kernel), List.mem_of_getElem? (i := 434) (by decide +kernel)⟩
theorem lw_p18 : lw_okq (⟨"TransformRows$Maker", "buildAny", "([J)I"⟩, 7) := ⟨⟨by decide +kernel, by decide +kernel⟩, List.mem_of_getElem? (i := 64) (by decide +kernel), List.mem_of_getElem? (i := 439) (by decide +kernel), List.mem_of_getElem? (i := 440) (by decide +kernel)⟩
theorem lw_p19 : lw_okq (⟨"TransformRows", "keepMap", "([J)I"⟩, 17) := ⟨⟨by decide +kernel, by decide +kernel⟩, List.mem_of_getElem? (i := 16) (by decide +kernel), List.mem_of_getElem? (i := 444) (by decide +kernel), List.mem_of_getElem? (i := 445) (by decide +kernel)⟩
theorem lw_p20 : lw_okq (⟨"TransformRows$Owns", "takeRow", "([J)Z"⟩, 6) := ⟨⟨by decide +kernel, by decide +kernel⟩, List.mem_of_getElem? (i := 114) (by decide +kernel), List.mem_of_getElem? (i := 565) (by decide +kernel), List.mem_of_getElem? (i := 566) (by decide +kernel)⟩
theorem lw_p21 : lw_okq (⟨"TransformRowsModel", "three", "(IIII)I"⟩, 18) := ⟨⟨by decide +kernel, by decide +kernel⟩, List.mem_of_getElem? (i := 618) (by decide +kernel), List.mem_of_getElem? (i := 683) (by decide +kernel), List.mem_of_getElem? (i := 684) (by decide +kernel)⟩
theorem lw_p22 : lw_okq (⟨"TransformRowsModel", "object", "(I)I"⟩, 18) := ⟨⟨by decide +kernel, by decide +kernel⟩, List.mem_of_getElem? (i := 618) (by decide +kernel), List.mem_of_getElem? (i := 692) (by decide +kernel), List.mem_of_getElem? (i := 693) (by decide +kernel)⟩
theorem lw_p23 : lw_okq (⟨"TransformRowsModel", "least", "([JI)Z"⟩, 18) := ⟨⟨by decide +kernel, by decide +kernel⟩, List.mem_of_getElem? (i := 618) (by decide +kernel), List.mem_of_getElem? (i := 696) (by decide +kernel), List.mem_of_getElem? (i := 697) (by decide +kernel)⟩
theorem lw_p24 : lw_okq (⟨"TransformRowsModel", "isSort", "(II)Z"⟩, 18) := ⟨⟨by decide +kernel, by decide +kernel⟩, List.mem_of_getElem? (i := 618) (by decide +kernel), List.mem_of_getElem? (i := 722) (by decide +kernel), List.mem_of_getElem? (i := 723) (by decide +kernel)⟩
theorem lw_p25 : lw_okq (⟨"TransformRowsModel", "crossOf", "(II)V"⟩, 18) := ⟨⟨by decide +kernel, by decide +kernel⟩, List.mem_of_getElem? (i := 618) (by decide +kernel), List.mem_of_getElem? (i := 726) (by decide +kernel), List.mem_of_getElem? (i := 727) (by decide +kernel)⟩
theorem lw_p26 : lw_okq (⟨"TransformRowsModel", "at", "(II)J"⟩, 18) := ⟨⟨by decide +kernel, by decide +kernel⟩, List.mem_of_getElem? (i := 618) (by decide +kernel), List.mem_of_getElem? (i := 730) (by decide +kernel), List.mem_of_getElem? (i := 731) (by decide +kernel)⟩
theorem lw_p27 : lw_okq (⟨"TransformRowsModel", "dot", "(II)J"⟩, 18) := ⟨⟨by decide +kernel, by decide +kernel⟩, List.mem_of_getElem? (i := 618) (by decide +kernel), List.mem_of_getElem? (i := 738) (by decide +kernel), List.mem_of_getElem? (i := 739) (by decide +kernel)⟩
theorem lw_p28 : lw_okq (⟨"TransformRowsModel", "areInLine", "(III)Z"⟩, 18) := ⟨⟨by decide +kernel, by decide +kernel⟩, List.mem_of_getElem? (i := 618) (by decide +kernel), List.mem_of_getElem? (i := 751) (by decide +kernel), List.mem_of_getElem? (i := 752) (by decide +kernel)⟩
theorem lw_p29 : lw_okq (⟨"TransformRowsModel", "part", "(III)J"⟩, 18) := ⟨⟨by decide +kernel, by decide +kernel⟩, List.mem_of_getElem? (i := 618) (by decide +kernel), List.mem_of_getElem? (i := 755) (by decide +kernel), List.mem_of_getElem? (i := 756) (by decide +kernel)⟩
theorem lw_p30 : lw_okq (⟨"TransformRowsModel", "mirror", "()Z"⟩, 18) := ⟨⟨by decide +kernel, by decide +kernel⟩, List.mem_of_getElem? (i := 618) (by decide +kernel), List.mem_of_getElem? (i := 771) (by decide +kernel), List.mem_of_getElem? (i := 772) (by decide +kernel)⟩
theorem lw_p31 : lw_okq (⟨"TransformRowsModel", "areGiven", "(II)Z"⟩, 18) := ⟨⟨by decide +kernel, by decide +kernel⟩, List.mem_of_getElem? (i := 618) (by decide +kernel), List.mem_of_getElem? (i := 775) (by decide +kernel), List.mem_of_getElem? (i := 776) (by decide +kernel)⟩
def lw_privs_2 : List (MethodName × Nat) := [(⟨"TransformRows$Maker", "buildProjective", "([J)I"⟩, 7), (⟨"TransformRows$Maker", "findWeights", "()Z"⟩, 7), (⟨"TransformRows$Maker", "buildAny", "([J)I"⟩, 7), (⟨"TransformRows", "keepMap", "([J)I"⟩, 17), (⟨"TransformRows$Owns", "takeRow", "([J)Z"⟩, 6), (⟨"TransformRowsModel", "three", "(IIII)I"⟩, 18), (⟨"TransformRowsModel", "object", "(I)I"⟩, 18), (⟨"TransformRowsModel", "least", "([JI)Z"⟩, 18), (⟨"TransformRowsModel", "isSort", "(II)Z"⟩, 18), (⟨"TransformRowsModel", "crossOf", "(II)V"⟩, 18), (⟨"TransformRowsModel", "at", "(II)J"⟩, 18), (⟨"TransformRowsModel", "dot", "(II)J"⟩, 18), (⟨"TransformRowsModel", "areInLine", "(III)Z"⟩, 18), (⟨"TransformRowsModel", "part", "(III)J"⟩, 18), (⟨"TransformRowsModel", "mirror", "()Z"⟩, 18), (⟨"TransformRowsModel", "areGiven", "(II)Z"⟩, 18)]
theorem lw_r2 : ∀ q ∈ lw_privs_2, lw_okq q := List.forall_mem_cons.mpr ⟨lw_p16, List.forall_mem_cons.mpr ⟨lw_p17, List.forall_mem_cons.mpr ⟨lw_p18, List.forall_mem_cons.mpr ⟨lw_p19, List.forall_mem_cons.mpr ⟨lw_p20, List.forall_mem_cons.mpr ⟨lw_p21, List.forall_mem_cons.mpr ⟨lw_p22, List.forall_mem_cons.mpr ⟨lw_p23, List.forall_mem_cons.mpr ⟨lw_p24, List.forall_mem_cons.mpr ⟨lw_p25, List.forall_mem_cons.mpr ⟨lw_p26, List.forall_mem_cons.mpr ⟨lw_p27, List.forall_mem_cons.mpr ⟨lw_p28, List.forall_mem_cons.mpr ⟨lw_p29, List.forall_mem_cons.mpr ⟨lw_p30, List.forall_mem_cons.mpr ⟨lw_p31, fun _ h => absurd h List.not_mem_nil⟩⟩⟩⟩⟩⟩⟩⟩⟩⟩⟩⟩⟩⟩⟩⟩
theorem lw_p32 : lw_okq (⟨"TransformRowsModel", "isFar", "(I)Z"⟩, 18) := ⟨⟨by decide +kernel, by decide +kernel⟩, List.mem_of_getElem? (i := 618) (by decide +kernel), List.mem_of_getElem? (i := 779) (by decide +kernel), List.mem_of_getElem? (i := 780) (by decide +kernel)⟩
theorem lw_p33 : lw_okq (⟨"TransformRowsModel", "set", "(JJJJJJ)V"⟩, 18) := ⟨⟨by decide +kernel, by decide +kernel⟩, List.mem_of_getElem? (i := 618) (by decide +kernel), List.mem_of_getElem? (i := 784) (by decide +kernel), List.mem_of_getElem? (i := 785) (by decide +kernel)⟩
theorem lw_p34 : lw_okq (⟨"TransformRowsModel", "glide", "(JJ)Z"⟩, 18) := ⟨⟨by decide +kernel, by decide +kernel⟩, List.mem_of_getElem? (i := 618) (by decide +kernel), List.mem_of_getElem? (i := 788) (by decide +kernel), List.mem_of_getElem? (i := 789) (by decide +kernel)⟩
theorem lw_p35 : lw_okq (⟨"TransformRowsModel", "any", "()Z"⟩, 18) := ⟨⟨by decide +kernel, by decide +kernel⟩, List.mem_of_getElem? (i := 618) (by decide +kernel), List.mem_of_getElem? (i := 795) (by decide +kernel), List.mem_of_getElem? (i := 796) (by decide +kernel)⟩
theorem lw_p36 : lw_okq (⟨"TransformRowsModel", "simple", "(IJJ)Z"⟩, 18) := ⟨⟨by decide +kernel, by decide +kernel⟩, List.mem_of_getElem? (i := 618) (by decide +kernel), List.mem_of_getElem? (i := 802) (by decide +kernel), List.mem_of_getElem? (i := 803) (by decide +kernel)⟩
theorem lw_p37 : lw_okq (⟨"TransformRowsModel", "mayBe", "(I)Z"⟩, 18) := ⟨⟨by decide +kernel, by decide +kernel⟩, List.mem_of_getElem? (i := 618) (by decide +kernel), List.mem_of_getElem? (i := 806) (by decide +kernel), List.mem_of_getElem? (i := 807) (by decide +kernel)⟩
theorem lw_p38 : lw_okq (⟨"TransformRowsModel", "byPoints", "(I)I"⟩, 18) := ⟨⟨by decide +kernel, by decide +kernel⟩, List.mem_of_getElem? (i := 618) (by decide +kernel), List.mem_of_getElem? (i := 810) (by decide +kernel), List.mem_of_getElem? (i := 811) (by decide +kernel)⟩
theorem lw_p39 : lw_okq (⟨"TransformRowsModel", "likeness", "()V"⟩, 18) := ⟨⟨by decide +kernel, by decide +kernel⟩, List.mem_of_getElem? (i := 618) (by decide +kernel), List.mem_of_getElem? (i := 817) (by decide +kernel), List.mem_of_getElem? (i := 818) (by decide +kernel)⟩
theorem lw_p40 : lw_okq (⟨"TransformRowsModel", "place", "(II)J"⟩, 18) := ⟨⟨by decide +kernel, by decide +kernel⟩, List.mem_of_getElem? (i := 618) (by decide +kernel), List.mem_of_getElem? (i := 821) (by decide +kernel), List.mem_of_getElem? (i := 822) (by decide +kernel)⟩
theorem lw_p41 : lw_okq (⟨"TransformRowsModel", "mod", "(J)J"⟩, 18) := ⟨⟨by decide +kernel, by decide +kernel⟩, List.mem_of_getElem? (i := 618) (by decide +kernel), List.mem_of_getElem? (i := 825) (by decide +kernel), List.mem_of_getElem? (i := 826) (by decide +kernel)⟩
theorem lw_p42 : lw_okq (⟨"TransformRowsModel", "inverse", "(J)J"⟩, 18) := ⟨⟨by decide +kernel, by decide +kernel⟩, List.mem_of_getElem? (i := 618) (by decide +kernel), List.mem_of_getElem? (i := 829) (by decide +kernel), List.mem_of_getElem? (i := 830) (by decide +kernel)⟩
theorem lw_p43 : lw_okq (⟨"TransformRowsModel", "affine", "()V"⟩, 18) := ⟨⟨by decide +kernel, by decide +kernel⟩, List.mem_of_getElem? (i := 618) (by decide +kernel), List.mem_of_getElem? (i := 833) (by decide +kernel), List.mem_of_getElem? (i := 834) (by decide +kernel)⟩
theorem lw_p44 : lw_okq (⟨"TransformRowsModel", "turned", "(III)J"⟩, 18) := ⟨⟨by decide +kernel, by decide +kernel⟩, List.mem_of_getElem? (i := 618) (by decide +kernel), List.mem_of_getElem? (i := 837) (by decide +kernel), List.mem_of_getElem? (i := 838) (by decide +kernel)⟩
theorem lw_p45 : lw_okq (⟨"TransformRowsModel", "projective", "()V"⟩, 18) := ⟨⟨by decide +kernel, by decide +kernel⟩, List.mem_of_getElem? (i := 618) (by decide +kernel), List.mem_of_getElem? (i := 841) (by decide +kernel), List.mem_of_getElem? (i := 842) (by decide +kernel)⟩
theorem lw_p46 : lw_okq (⟨"TransformRowsModel", "share", "(II)J"⟩, 18) := ⟨⟨by decide +kernel, by decide +kernel⟩, List.mem_of_getElem? (i := 618) (by decide +kernel), List.mem_of_getElem? (i := 845) (by decide +kernel), List.mem_of_getElem? (i := 846) (by decide +kernel)⟩
theorem lw_p47 : lw_okq (⟨"TransformRowsModel", "tellBack", "()Z"⟩, 18) := ⟨⟨by decide +kernel, by decide +kernel⟩, List.mem_of_getElem? (i := 618) (by decide +kernel), List.mem_of_getElem? (i := 849) (by decide +kernel), List.mem_of_getElem? (i := 850) (by decide +kernel)⟩
def lw_privs_3 : List (MethodName × Nat) := [(⟨"TransformRowsModel", "isFar", "(I)Z"⟩, 18), (⟨"TransformRowsModel", "set", "(JJJJJJ)V"⟩, 18), (⟨"TransformRowsModel", "glide", "(JJ)Z"⟩, 18), (⟨"TransformRowsModel", "any", "()Z"⟩, 18), (⟨"TransformRowsModel", "simple", "(IJJ)Z"⟩, 18), (⟨"TransformRowsModel", "mayBe", "(I)Z"⟩, 18), (⟨"TransformRowsModel", "byPoints", "(I)I"⟩, 18), (⟨"TransformRowsModel", "likeness", "()V"⟩, 18), (⟨"TransformRowsModel", "place", "(II)J"⟩, 18), (⟨"TransformRowsModel", "mod", "(J)J"⟩, 18), (⟨"TransformRowsModel", "inverse", "(J)J"⟩, 18), (⟨"TransformRowsModel", "affine", "()V"⟩, 18), (⟨"TransformRowsModel", "turned", "(III)J"⟩, 18), (⟨"TransformRowsModel", "projective", "()V"⟩, 18), (⟨"TransformRowsModel", "share", "(II)J"⟩, 18), (⟨"TransformRowsModel", "tellBack", "()Z"⟩, 18)]
theorem lw_r3 : ∀ q ∈ lw_privs_3, lw_okq q := List.forall_mem_cons.mpr ⟨lw_p32, List.forall_mem_cons.mpr ⟨lw_p33, List.forall_mem_cons.mpr ⟨lw_p34, List.forall_mem_cons.mpr ⟨lw_p35, List.forall_mem_cons.mpr ⟨lw_p36, List.forall_mem_cons.mpr ⟨lw_p37, List.forall_mem_cons.mpr ⟨lw_p38, List.forall_mem_cons.mpr ⟨lw_p39, List.forall_mem_cons.mpr ⟨lw_p40, List.forall_mem_cons.mpr ⟨lw_p41, List.forall_mem_cons.mpr ⟨lw_p42, List.forall_mem_cons.mpr ⟨lw_p43, List.forall_mem_cons.mpr ⟨lw_p44, List.forall_mem_cons.mpr ⟨lw_p45, List.forall_mem_cons.mpr ⟨lw_p46, List.forall_mem_cons.mpr ⟨lw_p47, fun _ h => absurd h List.not_mem_nil⟩⟩⟩⟩⟩⟩⟩⟩⟩⟩⟩⟩⟩⟩⟩⟩
theorem lw_p48 : lw_okq (⟨"TransformRowsModel", "small", "(J)Z"⟩, 18) := ⟨⟨by decide +kernel, by decide +kernel⟩, List.mem_of_getElem? (i := 618) (by decide +kernel), List.mem_of_getElem? (i := 853) (by decide +kernel), List.mem_of_getElem? (i := 854) (by decide +kernel)⟩
theorem lw_p49 : lw_okq (⟨"TransformRowsModel", "isTried", "(II)Z"⟩, 18) := ⟨⟨by decide +kernel, by decide +kernel⟩, List.mem_of_getElem? (i := 618) (by decide +kernel), List.mem_of_getElem? (i := 857) (by decide +kernel), List.mem_of_getElem? (i := 858) (by decide +kernel)⟩
theorem lw_p50 : lw_okq (⟨"TransformRowsModel", "takes", "(II)Z"⟩, 18) := ⟨⟨by decide +kernel, by decide +kernel⟩, List.mem_of_getElem? (i := 618) (by decide +kernel), List.mem_of_getElem? (i := 861) (by decide +kernel), List.mem_of_getElem? (i := 862) (by decide +kernel)⟩
theorem lw_p51 : lw_okq (⟨"TransformRowsModel", "map", "()I"⟩, 18) := ⟨⟨by decide +kernel, by decide +kernel⟩, List.mem_of_getElem? (i := 618) (by decide +kernel), List.mem_of_getElem? (i := 865) (by decide +kernel), List.mem_of_getElem? (i := 866) (by decide +kernel)⟩
theorem lw_p52 : lw_okq (⟨"TransformRowsModel", "isMap", "(I)Z"⟩, 18) := ⟨⟨by decide +kernel, by decide +kernel⟩, List.mem_of_getElem? (i := 618) (by decide +kernel), List.mem_of_getElem? (i := 877) (by decide +kernel), List.mem_of_getElem? (i := 878) (by decide +kernel)⟩
theorem lw_p53 : lw_okq (⟨"TransformRowsModel", "bring", "(I[J)V"⟩, 18) := ⟨⟨by decide +kernel, by decide +kernel⟩, List.mem_of_getElem? (i := 618) (by decide +kernel), List.mem_of_getElem? (i := 885) (by decide +kernel), List.mem_of_getElem? (i := 886) (by decide +kernel)⟩
theorem lw_p54 : lw_okq (⟨"TransformRowsModel", "conicImage", "(I)V"⟩, 18) := ⟨⟨by decide +kernel, by decide +kernel⟩, List.mem_of_getElem? (i := 618) (by decide +kernel), List.mem_of_getElem? (i := 900) (by decide +kernel), List.mem_of_getElem? (i := 901) (by decide +kernel)⟩
theorem lw_p55 : lw_okq (⟨"TransformRowsModel", "isAll", "([J)Z"⟩, 18) := ⟨⟨by decide +kernel, by decide +kernel⟩, List.mem_of_getElem? (i := 618) (by decide +kernel), List.mem_of_getElem? (i := 908) (by decide +kernel), List.mem_of_getElem? (i := 909) (by decide +kernel)⟩
theorem lw_p56 : lw_okq (⟨"TransformRowsModel", "flatKind", "()I"⟩, 18) := ⟨⟨by decide +kernel, by decide +kernel⟩, List.mem_of_getElem? (i := 618) (by decide +kernel), List.mem_of_getElem? (i := 912) (by decide +kernel), List.mem_of_getElem? (i := 913) (by decide +kernel)⟩
theorem lw_p57 : lw_okq (⟨"TransformRowsModel", "isTwiceAll", "([J)Z"⟩, 18) := ⟨⟨by decide +kernel, by decide +kernel⟩, List.mem_of_getElem? (i := 618) (by decide +kernel), List.mem_of_getElem? (i := 916) (by decide +kernel), List.mem_of_getElem? (i := 917) (by decide +kernel)⟩
theorem lw_p58 : lw_okq (⟨"TransformRowsModel", "rank", "([JJ)I"⟩, 18) := ⟨⟨by decide +kernel, by decide +kernel⟩, List.mem_of_getElem? (i := 618) (by decide +kernel), List.mem_of_getElem? (i := 920) (by decide +kernel), List.mem_of_getElem? (i := 921) (by decide +kernel)⟩
theorem lw_p59 : lw_okq (⟨"TransformRowsModel", "farKind", "()I"⟩, 18) := ⟨⟨by decide +kernel, by decide +kernel⟩, List.mem_of_getElem? (i := 618) (by decide +kernel), List.mem_of_getElem? (i := 924) (by decide +kernel), List.mem_of_getElem? (i := 925) (by decide +kernel)⟩
theorem lw_p60 : lw_okq (⟨"TransformRowsModel", "value", "(I)J"⟩, 18) := ⟨⟨by decide +kernel, by decide +kernel⟩, List.mem_of_getElem? (i := 618) (by decide +kernel), List.mem_of_getElem? (i := 934) (by decide +kernel), List.mem_of_getElem? (i := 935) (by decide +kernel)⟩
theorem lw_p61 : lw_okq (⟨"TransformRowsModel", "find", "()I"⟩, 18) := ⟨⟨by decide +kernel, by decide +kernel⟩, List.mem_of_getElem? (i := 618) (by decide +kernel), List.mem_of_getElem? (i := 956) (by decide +kernel), List.mem_of_getElem? (i := 957) (by decide +kernel)⟩
def lw_privs_4 : List (MethodName × Nat) := [(⟨"TransformRowsModel", "small", "(J)Z"⟩, 18), (⟨"TransformRowsModel", "isTried", "(II)Z"⟩, 18), (⟨"TransformRowsModel", "takes", "(II)Z"⟩, 18), (⟨"TransformRowsModel", "map", "()I"⟩, 18), (⟨"TransformRowsModel", "isMap", "(I)Z"⟩, 18), (⟨"TransformRowsModel", "bring", "(I[J)V"⟩, 18), (⟨"TransformRowsModel", "conicImage", "(I)V"⟩, 18), (⟨"TransformRowsModel", "isAll", "([J)Z"⟩, 18), (⟨"TransformRowsModel", "flatKind", "()I"⟩, 18), (⟨"TransformRowsModel", "isTwiceAll", "([J)Z"⟩, 18), (⟨"TransformRowsModel", "rank", "([JJ)I"⟩, 18), (⟨"TransformRowsModel", "farKind", "()I"⟩, 18), (⟨"TransformRowsModel", "value", "(I)J"⟩, 18), (⟨"TransformRowsModel", "find", "()I"⟩, 18)]
theorem lw_r4 : ∀ q ∈ lw_privs_4, lw_okq q := List.forall_mem_cons.mpr ⟨lw_p48, List.forall_mem_cons.mpr ⟨lw_p49, List.forall_mem_cons.mpr ⟨lw_p50, List.forall_mem_cons.mpr ⟨lw_p51, List.forall_mem_cons.mpr ⟨lw_p52, List.forall_mem_cons.mpr ⟨lw_p53, List.forall_mem_cons.mpr ⟨lw_p54, List.forall_mem_cons.mpr ⟨lw_p55, List.forall_mem_cons.mpr ⟨lw_p56, List.forall_mem_cons.mpr ⟨lw_p57, List.forall_mem_cons.mpr ⟨lw_p58, List.forall_mem_cons.mpr ⟨lw_p59, List.forall_mem_cons.mpr ⟨lw_p60, List.forall_mem_cons.mpr ⟨lw_p61, fun _ h => absurd h List.not_mem_nil⟩⟩⟩⟩⟩⟩⟩⟩⟩⟩⟩⟩⟩⟩
def lw_privs : List (MethodName × Nat) := lw_privs_1 ++ (lw_privs_2 ++ (lw_privs_3 ++ (lw_privs_4)))
def lw_tbl : List Cond := k2_sels lw_privs ++ tables_1
theorem lw_privs_ok : ∀ q ∈ lw_privs, lw_okq q := by
  show ∀ q ∈ lw_privs_1 ++ (lw_privs_2 ++ (lw_privs_3 ++ (lw_privs_4))), lw_okq q
  exact List.forall_mem_append.mpr ⟨lw_r1, List.forall_mem_append.mpr ⟨lw_r2, List.forall_mem_append.mpr ⟨lw_r3, lw_r4⟩⟩⟩
-- ===== end of PART A; then your names; then what follows =====
end
section
abbrev xI : Type := Nat × Instr × Nat
def RX0 : String := "TransformRows$Closure"
def TX0 : u_T := fun k => match k with
  | 0 => ("TransformRows$Closure", "elements", "LTransformRows$Shelf;", true)
  | 1 => ("TransformRows$Closure", "before", "[J", true)
  | 2 => ("TransformRows$Closure", "after", "[J", true)
  | _ => ("TransformRows$Closure", "both", "[J", true)
def tyX0 : Nat → FieldType := fun k => match k with
  | 0 => .object "TransformRows$Shelf"
  | 1 => .array .long
  | 2 => .array .long
  | _ => .array .long
theorem nmX0 : ∀ a, a < 4 → ∀ b, b < 4 → a ≠ b → (TX0 a).2.1 ≠ (TX0 b).2.1 := by decide +kernel
theorem tyX0_ok : ∀ k, k < 4 → parseFieldDescriptor (TX0 k).2.2.1 = some (tyX0 k) := by decide +kernel
abbrev cX0_init : ByteArray := prog_2_method_1_code
def yX0_init : MethodName := ⟨RX0, "<init>", "()V"⟩
abbrev cX0_grow : ByteArray := prog_2_method_2_code
def yX0_grow : MethodName := ⟨RX0, "grow", "(LTransformRows$Shelf;LTransformRows$Lineup;I)I"⟩
abbrev cX0_restart : ByteArray := prog_2_method_3_code
def yX0_restart : MethodName := ⟨RX0, "restart", "()V"⟩
def RX1 : String := "TransformRows$Images"
def TX1 : u_T := fun k => match k with
  | 0 => ("TransformRows$Images", "inverse", "[J", true)
  | 1 => ("TransformRows$Images", "turned", "[J", true)
  | 2 => ("TransformRows$Images", "form", "[J", true)
  | _ => ("TransformRows$Images", "half", "[J", true)
def tyX1 : Nat → FieldType := fun k => match k with
  | 0 => .array .long
  | 1 => .array .long
  | 2 => .array .long
  | _ => .array .long
theorem nmX1 : ∀ a, a < 4 → ∀ b, b < 4 → a ≠ b → (TX1 a).2.1 ≠ (TX1 b).2.1 := by decide +kernel
theorem tyX1_ok : ∀ k, k < 4 → parseFieldDescriptor (TX1 k).2.2.1 = some (tyX1 k) := by decide +kernel
abbrev cX1_init : ByteArray := prog_3_method_1_code
def yX1_init : MethodName := ⟨RX1, "<init>", "()V"⟩
abbrev cX1_ofLine : ByteArray := prog_3_method_2_code
def yX1_ofLine : MethodName := ⟨RX1, "ofLine", "([J[J[J)V"⟩
abbrev cX1_ofConic : ByteArray := prog_3_method_3_code
def yX1_ofConic : MethodName := ⟨RX1, "ofConic", "([J[J)V"⟩
def RX2 : String := "TransformRows$Kinds"
def TX2 : u_T := fun k => match k with
  | _ => ("", "", "", false)
def tyX2 : Nat → FieldType := fun k => match k with
  | _ => .int
theorem nmX2 : ∀ a, a < 0 → ∀ b, b < 0 → a ≠ b → (TX2 a).2.1 ≠ (TX2 b).2.1 := by decide +kernel
theorem tyX2_ok : ∀ k, k < 0 → parseFieldDescriptor (TX2 k).2.2.1 = some (tyX2 k) := by decide +kernel
abbrev cX2_allStays : ByteArray := prog_4_method_2_code
def yX2_allStays : MethodName := ⟨RX2, "allStays", "([J)Z"⟩
abbrev cX2_keepsFar : ByteArray := prog_4_method_3_code
def yX2_keepsFar : MethodName := ⟨RX2, "keepsFar", "([J)Z"⟩
abbrev cX2_ofAffine : ByteArray := prog_4_method_4_code
def yX2_ofAffine : MethodName := ⟨RX2, "ofAffine", "([J)I"⟩
abbrev cX2_ofLikeness : ByteArray := prog_4_method_5_code
def yX2_ofLikeness : MethodName := ⟨RX2, "ofLikeness", "([J)I"⟩
abbrev cX2_ofTurnedOver : ByteArray := prog_4_method_6_code
def yX2_ofTurnedOver : MethodName := ⟨RX2, "ofTurnedOver", "([J)I"⟩
abbrev cX2_keepsSizes : ByteArray := prog_4_method_7_code
def yX2_keepsSizes : MethodName := ⟨RX2, "keepsSizes", "([J)Z"⟩
abbrev cX2_keepsLineOfPoints : ByteArray := prog_4_method_8_code
def yX2_keepsLineOfPoints : MethodName := ⟨RX2, "keepsLineOfPoints", "([J)Z"⟩
abbrev cX2_ofProjective : ByteArray := prog_4_method_9_code
def yX2_ofProjective : MethodName := ⟨RX2, "ofProjective", "([JLTransformRows$Owns;)I"⟩
def RX3 : String := "TransformRows$Least"
def TX3 : u_T := fun k => match k with
  | _ => ("", "", "", false)
def tyX3 : Nat → FieldType := fun k => match k with
  | _ => .int
theorem nmX3 : ∀ a, a < 0 → ∀ b, b < 0 → a ≠ b → (TX3 a).2.1 ≠ (TX3 b).2.1 := by decide +kernel
theorem tyX3_ok : ∀ k, k < 0 → parseFieldDescriptor (TX3 k).2.2.1 = some (tyX3 k) := by decide +kernel
abbrev cX3_divisor : ByteArray := prog_5_method_2_code
def yX3_divisor : MethodName := ⟨RX3, "divisor", "(JJ)J"⟩
abbrev cX3_reduce : ByteArray := prog_5_method_3_code
def yX3_reduce : MethodName := ⟨RX3, "reduce", "([JJ)Z"⟩
def RX4 : String := "TransformRows$Lineup"
def TX4 : u_T := fun k => match k with
  | 0 => ("TransformRows$Lineup", "members", "[I", true)
  | 1 => ("TransformRows$Lineup", "most", "I", true)
  | _ => ("TransformRows$Lineup", "size", "I", false)
def tyX4 : Nat → FieldType := fun k => match k with
  | 0 => .array .int
  | 1 => .int
  | _ => .int
theorem nmX4 : ∀ a, a < 3 → ∀ b, b < 3 → a ≠ b → (TX4 a).2.1 ≠ (TX4 b).2.1 := by decide +kernel
theorem tyX4_ok : ∀ k, k < 3 → parseFieldDescriptor (TX4 k).2.2.1 = some (tyX4 k) := by decide +kernel
abbrev cX4_init : ByteArray := prog_6_method_1_code
def yX4_init : MethodName := ⟨RX4, "<init>", "(I)V"⟩
abbrev cX4_size : ByteArray := prog_6_method_2_code
def yX4_size : MethodName := ⟨RX4, "size", "()I"⟩
abbrev cX4_member : ByteArray := prog_6_method_3_code
def yX4_member : MethodName := ⟨RX4, "member", "(I)I"⟩
abbrev cX4_append : ByteArray := prog_6_method_4_code
def yX4_append : MethodName := ⟨RX4, "append", "(I)I"⟩
abbrev cX4_clear : ByteArray := prog_6_method_5_code
def yX4_clear : MethodName := ⟨RX4, "clear", "()V"⟩
def RX5 : String := "TransformRows$Maker"
def TX5 : u_T := fun k => match k with
  | 0 => ("TransformRows$Maker", "sorts", "[I", true)
  | 1 => ("TransformRows$Maker", "given", "[[J", true)
  | 2 => ("TransformRows$Maker", "fromSides", "[[J", true)
  | 3 => ("TransformRows$Maker", "toSides", "[[J", true)
  | 4 => ("TransformRows$Maker", "weights", "[J", true)
  | 5 => ("TransformRows$Maker", "pair", "[J", true)
  | _ => ("TransformRows$Maker", "size", "I", false)
def tyX5 : Nat → FieldType := fun k => match k with
  | 0 => .array .int
  | 1 => .array (.array .long)
  | 2 => .array (.array .long)
  | 3 => .array (.array .long)
  | 4 => .array .long
  | 5 => .array .long
  | _ => .int
theorem nmX5 : ∀ a, a < 7 → ∀ b, b < 7 → a ≠ b → (TX5 a).2.1 ≠ (TX5 b).2.1 := by decide +kernel
theorem tyX5_ok : ∀ k, k < 7 → parseFieldDescriptor (TX5 k).2.2.1 = some (tyX5 k) := by decide +kernel
abbrev cX5_init : ByteArray := prog_7_method_1_code
def yX5_init : MethodName := ⟨RX5, "<init>", "()V"⟩
abbrev cX5_take : ByteArray := prog_7_method_2_code
def yX5_take : MethodName := ⟨RX5, "take", "(LTransformRows$Shelf;LTransformRows$Lineup;)V"⟩
abbrev cX5_build : ByteArray := prog_7_method_3_code
def yX5_build : MethodName := ⟨RX5, "build", "(IJJ[J)I"⟩
abbrev cX5_buildShift : ByteArray := prog_7_method_4_code
def yX5_buildShift : MethodName := ⟨RX5, "buildShift", "([J)I"⟩
abbrev cX5_buildTurn : ByteArray := prog_7_method_5_code
def yX5_buildTurn : MethodName := ⟨RX5, "buildTurn", "(JJ[J)I"⟩
abbrev cX5_buildStretch : ByteArray := prog_7_method_6_code
def yX5_buildStretch : MethodName := ⟨RX5, "buildStretch", "(JJ[J)I"⟩
abbrev cX5_buildGlide : ByteArray := prog_7_method_7_code
def yX5_buildGlide : MethodName := ⟨RX5, "buildGlide", "(JJ[J)I"⟩
abbrev cX5_buildLikeness : ByteArray := prog_7_method_8_code
def yX5_buildLikeness : MethodName := ⟨RX5, "buildLikeness", "([J)I"⟩
abbrev cX5_buildAffine : ByteArray := prog_7_method_9_code
def yX5_buildAffine : MethodName := ⟨RX5, "buildAffine", "([J)I"⟩
abbrev cX5_buildProjective : ByteArray := prog_7_method_10_code
def yX5_buildProjective : MethodName := ⟨RX5, "buildProjective", "([J)I"⟩
abbrev cX5_buildAny : ByteArray := prog_7_method_11_code
def yX5_buildAny : MethodName := ⟨RX5, "buildAny", "([J)I"⟩
abbrev cX5_areAll : ByteArray := prog_7_method_12_code
def yX5_areAll : MethodName := ⟨RX5, "areAll", "(II)Z"⟩
abbrev cX5_areNear : ByteArray := prog_7_method_13_code
def yX5_areNear : MethodName := ⟨RX5, "areNear", "(I)Z"⟩
abbrev cX5_putLikeness : ByteArray := prog_7_method_14_code
def yX5_putLikeness : MethodName := ⟨RX5, "putLikeness", "(JJJJJ[J)V"⟩
abbrev cX5_findSides : ByteArray := prog_7_method_15_code
def yX5_findSides : MethodName := ⟨RX5, "findSides", "(I[[J)Z"⟩
abbrev cX5_findWeights : ByteArray := prog_7_method_16_code
def yX5_findWeights : MethodName := ⟨RX5, "findWeights", "()Z"⟩
abbrev cX5_putWeighted : ByteArray := prog_7_method_17_code
def yX5_putWeighted : MethodName := ⟨RX5, "putWeighted", "(I[J)V"⟩
def RX6 : String := "TransformRows$Owns"
def TX6 : u_T := fun k => match k with
  | 0 => ("TransformRows$Owns", "values", "[J", true)
  | 1 => ("TransformRows$Owns", "less", "[J", true)
  | 2 => ("TransformRows$Owns", "minors", "[J", true)
  | 3 => ("TransformRows$Owns", "columns", "[J", true)
  | 4 => ("TransformRows$Owns", "fixedRow", "[J", true)
  | _ => ("TransformRows$Owns", "size", "I", false)
def tyX6 : Nat → FieldType := fun k => match k with
  | 0 => .array .long
  | 1 => .array .long
  | 2 => .array .long
  | 3 => .array .long
  | 4 => .array .long
  | _ => .int
theorem nmX6 : ∀ a, a < 6 → ∀ b, b < 6 → a ≠ b → (TX6 a).2.1 ≠ (TX6 b).2.1 := by decide +kernel
theorem tyX6_ok : ∀ k, k < 6 → parseFieldDescriptor (TX6 k).2.2.1 = some (tyX6 k) := by decide +kernel
abbrev cX6_init : ByteArray := prog_8_method_1_code
def yX6_init : MethodName := ⟨RX6, "<init>", "()V"⟩
abbrev cX6_has : ByteArray := prog_8_method_2_code
def yX6_has : MethodName := ⟨RX6, "has", "(I)Z"⟩
abbrev cX6_value : ByteArray := prog_8_method_3_code
def yX6_value : MethodName := ⟨RX6, "value", "(I)J"⟩
abbrev cX6_find : ByteArray := prog_8_method_4_code
def yX6_find : MethodName := ⟨RX6, "find", "([J)V"⟩
abbrev cX6_fixedBy : ByteArray := prog_8_method_5_code
def yX6_fixedBy : MethodName := ⟨RX6, "fixedBy", "([JJ)I"⟩
abbrev cX6_widestRow : ByteArray := prog_8_method_6_code
def yX6_widestRow : MethodName := ⟨RX6, "widestRow", "([J)J"⟩
abbrev cX6_takeRow : ByteArray := prog_8_method_7_code
def yX6_takeRow : MethodName := ⟨RX6, "takeRow", "([J)Z"⟩
def RX7 : String := "TransformRows$Plane"
def TX7 : u_T := fun k => match k with
  | _ => ("", "", "", false)
def tyX7 : Nat → FieldType := fun k => match k with
  | _ => .int
theorem nmX7 : ∀ a, a < 0 → ∀ b, b < 0 → a ≠ b → (TX7 a).2.1 ≠ (TX7 b).2.1 := by decide +kernel
theorem tyX7_ok : ∀ k, k < 0 → parseFieldDescriptor (TX7 k).2.2.1 = some (tyX7 k) := by decide +kernel
abbrev cX7_dot : ByteArray := prog_9_method_2_code
def yX7_dot : MethodName := ⟨RX7, "dot", "([J[J)J"⟩
abbrev cX7_wedge : ByteArray := prog_9_method_3_code
def yX7_wedge : MethodName := ⟨RX7, "wedge", "([J[J[J)V"⟩
abbrev cX7_wedgeCell : ByteArray := prog_9_method_4_code
def yX7_wedgeCell : MethodName := ⟨RX7, "wedgeCell", "([J[JI)J"⟩
abbrev cX7_conicAt : ByteArray := prog_9_method_5_code
def yX7_conicAt : MethodName := ⟨RX7, "conicAt", "([J[J)J"⟩
abbrev cX7_evenTable : ByteArray := prog_9_method_6_code
def yX7_evenTable : MethodName := ⟨RX7, "evenTable", "([J[J)V"⟩
abbrev cX7_shapeOf : ByteArray := prog_9_method_7_code
def yX7_shapeOf : MethodName := ⟨RX7, "shapeOf", "([J[J)I"⟩
def RX8 : String := "TransformRows$Shelf"
def TX8 : u_T := fun k => match k with
  | 0 => ("TransformRows$Shelf", "sorts", "[I", true)
  | 1 => ("TransformRows$Shelf", "cells", "[I", true)
  | 2 => ("TransformRows$Shelf", "most", "I", true)
  | _ => ("TransformRows$Shelf", "size", "I", false)
def tyX8 : Nat → FieldType := fun k => match k with
  | 0 => .array .int
  | 1 => .array .int
  | 2 => .int
  | _ => .int
theorem nmX8 : ∀ a, a < 4 → ∀ b, b < 4 → a ≠ b → (TX8 a).2.1 ≠ (TX8 b).2.1 := by decide +kernel
theorem tyX8_ok : ∀ k, k < 4 → parseFieldDescriptor (TX8 k).2.2.1 = some (tyX8 k) := by decide +kernel
abbrev cX8_init : ByteArray := prog_10_method_1_code
def yX8_init : MethodName := ⟨RX8, "<init>", "(I)V"⟩
abbrev cX8_size : ByteArray := prog_10_method_2_code
def yX8_size : MethodName := ⟨RX8, "size", "()I"⟩
abbrev cX8_has : ByteArray := prog_10_method_3_code
def yX8_has : MethodName := ⟨RX8, "has", "(I)Z"⟩
abbrev cX8_sortOf : ByteArray := prog_10_method_4_code
def yX8_sortOf : MethodName := ⟨RX8, "sortOf", "(I)I"⟩
abbrev cX8_cell : ByteArray := prog_10_method_5_code
def yX8_cell : MethodName := ⟨RX8, "cell", "(II)I"⟩
abbrev cX8_load : ByteArray := prog_10_method_6_code
def yX8_load : MethodName := ⟨RX8, "load", "(I[J)V"⟩
abbrev cX8_find : ByteArray := prog_10_method_7_code
def yX8_find : MethodName := ⟨RX8, "find", "(I[J)I"⟩
abbrev cX8_keep : ByteArray := prog_10_method_8_code
def yX8_keep : MethodName := ⟨RX8, "keep", "(I[J)I"⟩
abbrev cX8_clear : ByteArray := prog_10_method_9_code
def yX8_clear : MethodName := ⟨RX8, "clear", "()V"⟩
abbrev cX8_isAt : ByteArray := prog_10_method_10_code
def yX8_isAt : MethodName := ⟨RX8, "isAt", "(I[J)Z"⟩
def RX9 : String := "TransformRows$Tables"
def TX9 : u_T := fun k => match k with
  | _ => ("", "", "", false)
def tyX9 : Nat → FieldType := fun k => match k with
  | _ => .int
theorem nmX9 : ∀ a, a < 0 → ∀ b, b < 0 → a ≠ b → (TX9 a).2.1 ≠ (TX9 b).2.1 := by decide +kernel
theorem tyX9_ok : ∀ k, k < 0 → parseFieldDescriptor (TX9 k).2.2.1 = some (tyX9 k) := by decide +kernel
abbrev cX9_putRow : ByteArray := prog_11_method_2_code
def yX9_putRow : MethodName := ⟨RX9, "putRow", "([JIJJJ)V"⟩
abbrev cX9_apply : ByteArray := prog_11_method_3_code
def yX9_apply : MethodName := ⟨RX9, "apply", "([J[J[J)V"⟩
abbrev cX9_product : ByteArray := prog_11_method_4_code
def yX9_product : MethodName := ⟨RX9, "product", "([J[J[J)V"⟩
abbrev cX9_transpose : ByteArray := prog_11_method_5_code
def yX9_transpose : MethodName := ⟨RX9, "transpose", "([J[J)V"⟩
abbrev cX9_adjugate : ByteArray := prog_11_method_6_code
def yX9_adjugate : MethodName := ⟨RX9, "adjugate", "([J[J)V"⟩
abbrev cX9_determinant : ByteArray := prog_11_method_7_code
def yX9_determinant : MethodName := ⟨RX9, "determinant", "([J)J"⟩
abbrev cX9_trace : ByteArray := prog_11_method_8_code
def yX9_trace : MethodName := ⟨RX9, "trace", "([J)J"⟩
def RX10 : String := "TransformRows"
def TX10 : u_T := fun k => match k with
  | 0 => ("TransformRows", "objects", "LTransformRows$Shelf;", true)
  | 1 => ("TransformRows", "maps", "LTransformRows$Shelf;", true)
  | 2 => ("TransformRows", "row", "LTransformRows$Lineup;", true)
  | 3 => ("TransformRows", "seeds", "LTransformRows$Lineup;", true)
  | 4 => ("TransformRows", "maker", "LTransformRows$Maker;", true)
  | 5 => ("TransformRows", "images", "LTransformRows$Images;", true)
  | 6 => ("TransformRows", "owns", "LTransformRows$Owns;", true)
  | 7 => ("TransformRows", "closure", "LTransformRows$Closure;", true)
  | 8 => ("TransformRows", "triple", "[J", true)
  | 9 => ("TransformRows", "sextuple", "[J", true)
  | 10 => ("TransformRows", "first", "[J", true)
  | 11 => ("TransformRows", "second", "[J", true)
  | 12 => ("TransformRows", "result", "[J", true)
  | 13 => ("TransformRows", "p3", "[J", true)
  | 14 => ("TransformRows", "q3", "[J", true)
  | 15 => ("TransformRows", "r3", "[J", true)
  | _ => ("TransformRows", "s3", "[J", true)
def tyX10 : Nat → FieldType := fun k => match k with
  | 0 => .object "TransformRows$Shelf"
  | 1 => .object "TransformRows$Shelf"
  | 2 => .object "TransformRows$Lineup"
  | 3 => .object "TransformRows$Lineup"
  | 4 => .object "TransformRows$Maker"
  | 5 => .object "TransformRows$Images"
  | 6 => .object "TransformRows$Owns"
  | 7 => .object "TransformRows$Closure"
  | 8 => .array .long
  | 9 => .array .long
  | 10 => .array .long
  | 11 => .array .long
  | 12 => .array .long
  | 13 => .array .long
  | 14 => .array .long
  | 15 => .array .long
  | _ => .array .long
theorem nmX10 : ∀ a, a < 17 → ∀ b, b < 17 → a ≠ b → (TX10 a).2.1 ≠ (TX10 b).2.1 := by decide +kernel
theorem tyX10_ok : ∀ k, k < 17 → parseFieldDescriptor (TX10 k).2.2.1 = some (tyX10 k) := by decide +kernel
abbrev cX10_init : ByteArray := prog_1_method_1_code
def yX10_init : MethodName := ⟨RX10, "<init>", "()V"⟩
abbrev cX10_point : ByteArray := prog_1_method_2_code
def yX10_point : MethodName := ⟨RX10, "point", "(III)I"⟩
abbrev cX10_line : ByteArray := prog_1_method_3_code
def yX10_line : MethodName := ⟨RX10, "line", "(III)I"⟩
abbrev cX10_conic : ByteArray := prog_1_method_4_code
def yX10_conic : MethodName := ⟨RX10, "conic", "(IIIIII)I"⟩
abbrev cX10_number : ByteArray := prog_1_method_5_code
def yX10_number : MethodName := ⟨RX10, "number", "(II)I"⟩
abbrev cX10_join : ByteArray := prog_1_method_6_code
def yX10_join : MethodName := ⟨RX10, "join", "(II)I"⟩
abbrev cX10_on : ByteArray := prog_1_method_7_code
def yX10_on : MethodName := ⟨RX10, "on", "(II)I"⟩
abbrev cX10_shape : ByteArray := prog_1_method_8_code
def yX10_shape : MethodName := ⟨RX10, "shape", "(I)I"⟩
abbrev cX10_cross : ByteArray := prog_1_method_9_code
def yX10_cross : MethodName := ⟨RX10, "cross", "(IIIII)J"⟩
abbrev cX10_give : ByteArray := prog_1_method_10_code
def yX10_give : MethodName := ⟨RX10, "give", "(I)I"⟩
abbrev cX10_make : ByteArray := prog_1_method_11_code
def yX10_make : MethodName := ⟨RX10, "make", "(III)I"⟩
abbrev cX10_count : ByteArray := prog_1_method_12_code
def yX10_count : MethodName := ⟨RX10, "count", "(I)I"⟩
abbrev cX10_entry : ByteArray := prog_1_method_13_code
def yX10_entry : MethodName := ⟨RX10, "entry", "(II)I"⟩
abbrev cX10_then : ByteArray := prog_1_method_14_code
def yX10_then : MethodName := ⟨RX10, "then", "(II)I"⟩
abbrev cX10_back : ByteArray := prog_1_method_15_code
def yX10_back : MethodName := ⟨RX10, "back", "(I)I"⟩
abbrev cX10_image : ByteArray := prog_1_method_16_code
def yX10_image : MethodName := ⟨RX10, "image", "(II)I"⟩
abbrev cX10_kind : ByteArray := prog_1_method_17_code
def yX10_kind : MethodName := ⟨RX10, "kind", "(I)I"⟩
abbrev cX10_own : ByteArray := prog_1_method_18_code
def yX10_own : MethodName := ⟨RX10, "own", "(II)J"⟩
abbrev cX10_fixed : ByteArray := prog_1_method_19_code
def yX10_fixed : MethodName := ⟨RX10, "fixed", "(II)I"⟩
abbrev cX10_order : ByteArray := prog_1_method_20_code
def yX10_order : MethodName := ⟨RX10, "order", "(II)I"⟩
abbrev cX10_seed : ByteArray := prog_1_method_21_code
def yX10_seed : MethodName := ⟨RX10, "seed", "(I)I"⟩
abbrev cX10_group : ByteArray := prog_1_method_22_code
def yX10_group : MethodName := ⟨RX10, "group", "(I)I"⟩
abbrev cX10_element : ByteArray := prog_1_method_23_code
def yX10_element : MethodName := ⟨RX10, "element", "(II)I"⟩
abbrev cX10_among : ByteArray := prog_1_method_24_code
def yX10_among : MethodName := ⟨RX10, "among", "(I)I"⟩
abbrev cX10_beyond : ByteArray := prog_1_method_25_code
def yX10_beyond : MethodName := ⟨RX10, "beyond", "(JJ)Z"⟩
abbrev cX10_keepTriple : ByteArray := prog_1_method_26_code
def yX10_keepTriple : MethodName := ⟨RX10, "keepTriple", "(IIII)I"⟩
abbrev cX10_keepGiven : ByteArray := prog_1_method_27_code
def yX10_keepGiven : MethodName := ⟨RX10, "keepGiven", "(I[J)I"⟩
abbrev cX10_keepObject : ByteArray := prog_1_method_28_code
def yX10_keepObject : MethodName := ⟨RX10, "keepObject", "(I[J)I"⟩
abbrev cX10_keepMap : ByteArray := prog_1_method_29_code
def yX10_keepMap : MethodName := ⟨RX10, "keepMap", "([J)I"⟩
abbrev cX10_crossRatio : ByteArray := prog_1_method_30_code
def yX10_crossRatio : MethodName := ⟨RX10, "crossRatio", "(I)J"⟩
def RX11 : String := "TransformRowsModel"
def TX11 : u_T := fun k => match k with
  | 0 => ("TransformRowsModel", "sorts", "[I", true)
  | 1 => ("TransformRowsModel", "rows", "[I", true)
  | 2 => ("TransformRowsModel", "objects", "I", false)
  | 3 => ("TransformRowsModel", "tables", "[I", true)
  | 4 => ("TransformRowsModel", "maps", "I", false)
  | 5 => ("TransformRowsModel", "given", "[I", true)
  | 6 => ("TransformRowsModel", "givens", "I", false)
  | 7 => ("TransformRowsModel", "seeds", "[I", true)
  | 8 => ("TransformRowsModel", "seedCount", "I", false)
  | 9 => ("TransformRowsModel", "group", "[I", true)
  | 10 => ("TransformRowsModel", "groupSize", "I", false)
  | 11 => ("TransformRowsModel", "row", "[J", true)
  | 12 => ("TransformRowsModel", "table", "[J", true)
  | 13 => ("TransformRowsModel", "one", "[J", true)
  | 14 => ("TransformRowsModel", "two", "[J", true)
  | 15 => ("TransformRowsModel", "p", "J", false)
  | 16 => ("TransformRowsModel", "above", "J", false)
  | _ => ("TransformRowsModel", "below", "J", false)
def tyX11 : Nat → FieldType := fun k => match k with
  | 0 => .array .int
  | 1 => .array .int
  | 2 => .int
  | 3 => .array .int
  | 4 => .int
  | 5 => .array .int
  | 6 => .int
  | 7 => .array .int
  | 8 => .int
  | 9 => .array .int
  | 10 => .int
  | 11 => .array .long
  | 12 => .array .long
  | 13 => .array .long
  | 14 => .array .long
  | 15 => .long
  | 16 => .long
  | _ => .long
theorem nmX11 : ∀ a, a < 18 → ∀ b, b < 18 → a ≠ b → (TX11 a).2.1 ≠ (TX11 b).2.1 := by decide +kernel
theorem tyX11_ok : ∀ k, k < 18 → parseFieldDescriptor (TX11 k).2.2.1 = some (tyX11 k) := by decide +kernel
abbrev cX11_init : ByteArray := prog_13_method_1_code
def yX11_init : MethodName := ⟨RX11, "<init>", "()V"⟩
abbrev cX11_gcd : ByteArray := prog_13_method_2_code
def yX11_gcd : MethodName := ⟨RX11, "gcd", "(JJ)J"⟩
abbrev cX11_least : ByteArray := prog_13_method_3_code
def yX11_least : MethodName := ⟨RX11, "least", "([JI)Z"⟩
abbrev cX11_isSort : ByteArray := prog_13_method_4_code
def yX11_isSort : MethodName := ⟨RX11, "isSort", "(II)Z"⟩
abbrev cX11_at : ByteArray := prog_13_method_5_code
def yX11_at : MethodName := ⟨RX11, "at", "(II)J"⟩
abbrev cX11_object : ByteArray := prog_13_method_6_code
def yX11_object : MethodName := ⟨RX11, "object", "(I)I"⟩
abbrev cX11_in : ByteArray := prog_13_method_7_code
def yX11_in : MethodName := ⟨RX11, "in", "(JJJ)Z"⟩
abbrev cX11_three : ByteArray := prog_13_method_8_code
def yX11_three : MethodName := ⟨RX11, "three", "(IIII)I"⟩
abbrev cX11_point : ByteArray := prog_13_method_9_code
def yX11_point : MethodName := ⟨RX11, "point", "(III)I"⟩
abbrev cX11_line : ByteArray := prog_13_method_10_code
def yX11_line : MethodName := ⟨RX11, "line", "(III)I"⟩
abbrev cX11_conic : ByteArray := prog_13_method_11_code
def yX11_conic : MethodName := ⟨RX11, "conic", "(IIIIII)I"⟩
abbrev cX11_number : ByteArray := prog_13_method_12_code
def yX11_number : MethodName := ⟨RX11, "number", "(II)I"⟩
abbrev cX11_crossOf : ByteArray := prog_13_method_13_code
def yX11_crossOf : MethodName := ⟨RX11, "crossOf", "(II)V"⟩
abbrev cX11_join : ByteArray := prog_13_method_14_code
def yX11_join : MethodName := ⟨RX11, "join", "(II)I"⟩
abbrev cX11_dot : ByteArray := prog_13_method_15_code
def yX11_dot : MethodName := ⟨RX11, "dot", "(II)J"⟩
abbrev cX11_on : ByteArray := prog_13_method_16_code
def yX11_on : MethodName := ⟨RX11, "on", "(II)I"⟩
abbrev cX11_shape : ByteArray := prog_13_method_17_code
def yX11_shape : MethodName := ⟨RX11, "shape", "(I)I"⟩
abbrev cX11_part : ByteArray := prog_13_method_18_code
def yX11_part : MethodName := ⟨RX11, "part", "(III)J"⟩
abbrev cX11_areInLine : ByteArray := prog_13_method_19_code
def yX11_areInLine : MethodName := ⟨RX11, "areInLine", "(III)Z"⟩
abbrev cX11_cross : ByteArray := prog_13_method_20_code
def yX11_cross : MethodName := ⟨RX11, "cross", "(IIIII)J"⟩
abbrev cX11_isMap : ByteArray := prog_13_method_21_code
def yX11_isMap : MethodName := ⟨RX11, "isMap", "(I)Z"⟩
abbrev cX11_bring : ByteArray := prog_13_method_22_code
def yX11_bring : MethodName := ⟨RX11, "bring", "(I[J)V"⟩
abbrev cX11_det : ByteArray := prog_13_method_23_code
def yX11_det : MethodName := ⟨RX11, "det", "([J)J"⟩
abbrev cX11_turnBack : ByteArray := prog_13_method_24_code
def yX11_turnBack : MethodName := ⟨RX11, "turnBack", "([J[J)V"⟩
abbrev cX11_times : ByteArray := prog_13_method_25_code
def yX11_times : MethodName := ⟨RX11, "times", "([J[J[J)V"⟩
abbrev cX11_map : ByteArray := prog_13_method_26_code
def yX11_map : MethodName := ⟨RX11, "map", "()I"⟩
abbrev cX11_give : ByteArray := prog_13_method_27_code
def yX11_give : MethodName := ⟨RX11, "give", "(I)I"⟩
abbrev cX11_areGiven : ByteArray := prog_13_method_28_code
def yX11_areGiven : MethodName := ⟨RX11, "areGiven", "(II)Z"⟩
abbrev cX11_isFar : ByteArray := prog_13_method_29_code
def yX11_isFar : MethodName := ⟨RX11, "isFar", "(I)Z"⟩
abbrev cX11_set : ByteArray := prog_13_method_30_code
def yX11_set : MethodName := ⟨RX11, "set", "(JJJJJJ)V"⟩
abbrev cX11_mirror : ByteArray := prog_13_method_31_code
def yX11_mirror : MethodName := ⟨RX11, "mirror", "()Z"⟩
abbrev cX11_simple : ByteArray := prog_13_method_32_code
def yX11_simple : MethodName := ⟨RX11, "simple", "(IJJ)Z"⟩
abbrev cX11_glide : ByteArray := prog_13_method_33_code
def yX11_glide : MethodName := ⟨RX11, "glide", "(JJ)Z"⟩
abbrev cX11_any : ByteArray := prog_13_method_34_code
def yX11_any : MethodName := ⟨RX11, "any", "()Z"⟩
abbrev cX11_mod : ByteArray := prog_13_method_35_code
def yX11_mod : MethodName := ⟨RX11, "mod", "(J)J"⟩
abbrev cX11_inverse : ByteArray := prog_13_method_36_code
def yX11_inverse : MethodName := ⟨RX11, "inverse", "(J)J"⟩
abbrev cX11_turned : ByteArray := prog_13_method_37_code
def yX11_turned : MethodName := ⟨RX11, "turned", "(III)J"⟩
abbrev cX11_share : ByteArray := prog_13_method_38_code
def yX11_share : MethodName := ⟨RX11, "share", "(II)J"⟩
abbrev cX11_projective : ByteArray := prog_13_method_39_code
def yX11_projective : MethodName := ⟨RX11, "projective", "()V"⟩
abbrev cX11_affine : ByteArray := prog_13_method_40_code
def yX11_affine : MethodName := ⟨RX11, "affine", "()V"⟩
abbrev cX11_place : ByteArray := prog_13_method_41_code
def yX11_place : MethodName := ⟨RX11, "place", "(II)J"⟩
abbrev cX11_likeness : ByteArray := prog_13_method_42_code
def yX11_likeness : MethodName := ⟨RX11, "likeness", "()V"⟩
abbrev cX11_small : ByteArray := prog_13_method_43_code
def yX11_small : MethodName := ⟨RX11, "small", "(J)Z"⟩
abbrev cX11_tellBack : ByteArray := prog_13_method_44_code
def yX11_tellBack : MethodName := ⟨RX11, "tellBack", "()Z"⟩
abbrev cX11_takes : ByteArray := prog_13_method_45_code
def yX11_takes : MethodName := ⟨RX11, "takes", "(II)Z"⟩
abbrev cX11_isTried : ByteArray := prog_13_method_46_code
def yX11_isTried : MethodName := ⟨RX11, "isTried", "(II)Z"⟩
abbrev cX11_mayBe : ByteArray := prog_13_method_47_code
def yX11_mayBe : MethodName := ⟨RX11, "mayBe", "(I)Z"⟩
abbrev cX11_byPoints : ByteArray := prog_13_method_48_code
def yX11_byPoints : MethodName := ⟨RX11, "byPoints", "(I)I"⟩
abbrev cX11_make : ByteArray := prog_13_method_49_code
def yX11_make : MethodName := ⟨RX11, "make", "(III)I"⟩
abbrev cX11_count : ByteArray := prog_13_method_50_code
def yX11_count : MethodName := ⟨RX11, "count", "(I)I"⟩
abbrev cX11_entry : ByteArray := prog_13_method_51_code
def yX11_entry : MethodName := ⟨RX11, "entry", "(II)I"⟩
abbrev cX11_then : ByteArray := prog_13_method_52_code
def yX11_then : MethodName := ⟨RX11, "then", "(II)I"⟩
abbrev cX11_back : ByteArray := prog_13_method_53_code
def yX11_back : MethodName := ⟨RX11, "back", "(I)I"⟩
abbrev cX11_image : ByteArray := prog_13_method_54_code
def yX11_image : MethodName := ⟨RX11, "image", "(II)I"⟩
abbrev cX11_conicImage : ByteArray := prog_13_method_55_code
def yX11_conicImage : MethodName := ⟨RX11, "conicImage", "(I)V"⟩
abbrev cX11_isAll : ByteArray := prog_13_method_56_code
def yX11_isAll : MethodName := ⟨RX11, "isAll", "([J)Z"⟩
abbrev cX11_rank : ByteArray := prog_13_method_57_code
def yX11_rank : MethodName := ⟨RX11, "rank", "([JJ)I"⟩
abbrev cX11_isTwiceAll : ByteArray := prog_13_method_58_code
def yX11_isTwiceAll : MethodName := ⟨RX11, "isTwiceAll", "([J)Z"⟩
abbrev cX11_kind : ByteArray := prog_13_method_59_code
def yX11_kind : MethodName := ⟨RX11, "kind", "(I)I"⟩
abbrev cX11_flatKind : ByteArray := prog_13_method_60_code
def yX11_flatKind : MethodName := ⟨RX11, "flatKind", "()I"⟩
abbrev cX11_farKind : ByteArray := prog_13_method_61_code
def yX11_farKind : MethodName := ⟨RX11, "farKind", "()I"⟩
abbrev cX11_value : ByteArray := prog_13_method_62_code
def yX11_value : MethodName := ⟨RX11, "value", "(I)J"⟩
abbrev cX11_own : ByteArray := prog_13_method_63_code
def yX11_own : MethodName := ⟨RX11, "own", "(II)J"⟩
abbrev cX11_fixed : ByteArray := prog_13_method_64_code
def yX11_fixed : MethodName := ⟨RX11, "fixed", "(II)I"⟩
abbrev cX11_order : ByteArray := prog_13_method_65_code
def yX11_order : MethodName := ⟨RX11, "order", "(II)I"⟩
abbrev cX11_seed : ByteArray := prog_13_method_66_code
def yX11_seed : MethodName := ⟨RX11, "seed", "(I)I"⟩
abbrev cX11_find : ByteArray := prog_13_method_67_code
def yX11_find : MethodName := ⟨RX11, "find", "()I"⟩
abbrev cX11_group : ByteArray := prog_13_method_68_code
def yX11_group : MethodName := ⟨RX11, "group", "(I)I"⟩
abbrev cX11_element : ByteArray := prog_13_method_69_code
def yX11_element : MethodName := ⟨RX11, "element", "(II)I"⟩
abbrev cX11_among : ByteArray := prog_13_method_70_code
def yX11_among : MethodName := ⟨RX11, "among", "(I)I"⟩
def RJ9 : String := "java/lang/Math"
def TJ9 : u_T := fun k => match k with
  | _ => ("", "", "", false)
def tyJ9 : Nat → FieldType := fun k => match k with
  | _ => .int
theorem nmJ9 : ∀ a, a < 0 → ∀ b, b < 0 → a ≠ b → (TJ9 a).2.1 ≠ (TJ9 b).2.1 := by decide +kernel
theorem tyJ9_ok : ∀ k, k < 0 → parseFieldDescriptor (TJ9 k).2.2.1 = some (tyJ9 k) := by decide +kernel
abbrev cJ9_abs_067f4 : ByteArray := prog_14_method_61_code
def yJ9_abs_067f4 : MethodName := ⟨RJ9, "abs", "(J)J"⟩
abbrev cJ9_max_f86c9 : ByteArray := prog_14_method_66_code
def yJ9_max_f86c9 : MethodName := ⟨RJ9, "max", "(JJ)J"⟩
abbrev cJ9_min_7cf53 : ByteArray := prog_14_method_69_code
def yJ9_min_7cf53 : MethodName := ⟨RJ9, "min", "(II)I"⟩
abbrev cJ9_min_f86c9 : ByteArray := prog_14_method_70_code
def yJ9_min_f86c9 : MethodName := ⟨RJ9, "min", "(JJ)J"⟩
def RJ10 : String := "java/lang/System"
def TJ10 : u_T := fun k => match k with
  | _ => ("", "", "", false)
def tyJ10 : Nat → FieldType := fun k => match k with
  | _ => .int
theorem nmJ10 : ∀ a, a < 0 → ∀ b, b < 0 → a ≠ b → (TJ10 a).2.1 ≠ (TJ10 b).2.1 := by decide +kernel
theorem tyJ10_ok : ∀ k, k < 0 → parseFieldDescriptor (TJ10 k).2.2.1 = some (tyJ10 k) := by decide +kernel
def RL : String := "TransformRowsLaw"
abbrev cL_law : ByteArray := code
def yL_law : MethodName := ⟨RL, "law", "([I)Z"⟩
abbrev vwCl : List vw_C := [(RX0, TX0, 4), (RX1, TX1, 4), (RX4, TX4, 3), (RX5, TX5, 7), (RX6, TX6, 6), (RX8, TX8, 4), (RX10, TX10, 17), (RX11, TX11, 18)]
/-- the instructions of a method, as its code decodes, one behind another -/
def xwf (cc : ByteArray) : List xI → Bool
  | [] => true
  | (pc, ins, len) :: cs => decide (decode cc pc = .ok (ins, len)) && (match cs with | [] => true | (pc2, _, _) :: _ => decide (pc2 = pc + len)) && xwf cc cs
def xlen (ins : Instr) : Nat := match ins with
  | .bipush _ => 2
  | .iload _ => 2
  | .lload _ => 2
  | .aload _ => 2
  | .istore _ => 2
  | .lstore _ => 2
  | .astore _ => 2
  | .newarray _ => 2
  | .sipush _ => 3
  | .ldc2_w _ => 3
  | .getfield _ => 3
  | .putfield _ => 3
  | .invokevirtual _ => 3
  | .invokestatic _ => 3
  | .invokespecial _ => 3
  | .ifCond _ _ => 3
  | .if_icmp _ _ => 3
  | .goto _ => 3
  | .iinc _ _ => 3
  | .new _ => 3
  | .multianewarray _ _ => 4
  | _ => 1
def xlok (i : xI) : Bool := match i.2.1 with
  | .tableswitch .. => true
  | .lookupswitch .. => true
  | .ifCond _ off => Nat.beq i.2.2 3 && decide (0 ≤ (i.1 : Int) + off)
  | .if_icmp _ off => Nat.beq i.2.2 3 && decide (0 ≤ (i.1 : Int) + off)
  | ins => Nat.beq i.2.2 (xlen ins)
/-- a suffix of a method's instructions -/
def xsf (cc : ByteArray) (cs : List xI) : Prop := xwf cc cs = true ∧ cs.all xlok = true
end
section
/-! THE ENGINE: a symbolic run of a stretch of bytecode as one reduction; its soundness over the machine ('W') once and for all. A cell of the world is named by its place in a list. -/
abbrev xE : Type := vp_A ⊕ (Nat × List Value)
def xv (ad : Nat → Nat) (v : Value) : Value := match v with
  | .ref k => .ref (ad k)
  | w => w
def xq (ad : Nat → Nat) (f : Nat → Option Nat) : Nat → Option Nat := fun i => (f i).map ad
def xe (ad : Nat → Nat) (kI kJ kQ : ClassId) (e : xE) : va_E := match e with
  | .inl (n, .inl f) => .inl (kI, n, .inl f)
  | .inl (n, .inr (.inl f)) => .inl (kJ, n, .inr (.inl f))
  | .inl (n, .inr (.inr (.inl f))) => .inl (kI, n, .inr (.inr (.inl f)))
  | .inl (n, .inr (.inr (.inr (.inl f)))) => .inl (kI, n, .inr (.inr (.inr (.inl f))))
  | .inl (n, .inr (.inr (.inr (.inr f)))) => .inl (kQ, n, .inr (.inr (.inr (.inr (xq ad f)))))
  | .inr (ci, fs) => .inr (ci, fs.map (xv ad))
def xw (ad : Nat → Nat) (kI kJ kQ : ClassId) (G : List xE) : va_W := G.mapIdx (fun k e => (ad k, xe ad kI kJ kQ e))
theorem xw_get {ad : Nat → Nat} {kI kJ kQ : ClassId} {G : List xE} {k : Nat} : (xw ad kI kJ kQ G)[k]? = (G[k]?).map (fun e => (ad k, xe ad kI kJ kQ e)) := by
  simp [xw]
theorem xw_at {ad : Nat → Nat} {kI kJ kQ : ClassId} {G : List xE} {k : Nat} {e : xE} (h : G[k]? = some e) : (xw ad kI kJ kQ G)[k]? = some (ad k, xe ad kI kJ kQ e) := by
  rw [xw_get, h]; rfl
theorem xw_len {ad : Nat → Nat} {kI kJ kQ : ClassId} {G : List xE} : (xw ad kI kJ kQ G).length = G.length := by simp [xw]
theorem xw_set {ad : Nat → Nat} {kI kJ kQ : ClassId} {G : List xE} {k : Nat} {e : xE} : (xw ad kI kJ kQ G).set k (ad k, xe ad kI kJ kQ e) = xw ad kI kJ kQ (G.set k e) := by
  apply List.ext_getElem?
  intro j
  rw [xw_get, List.getElem?_set, List.getElem?_set, xw_len, xw_get]
  by_cases h : k = j
  · subst h
    by_cases h2 : k < G.length
    · simp [h2]
    · simp [h2]
  · simp [h]
theorem xv_cat (ad : Nat → Nat) (v : Value) : (xv ad v).category = v.category := by cases v <;> rfl
/-- element by place -/
def xnth {α : Type} : List α → Nat → Option α
  | [], _ => none
  | a :: _, 0 => some a
  | _ :: t, n + 1 => xnth t n
theorem xnth_eq {α : Type} : ∀ (l : List α) (n : Nat), xnth l n = l[n]?
  | [], n => by simp [xnth]
  | a :: t, 0 => by simp [xnth]
  | a :: t, n + 1 => by simp [xnth, xnth_eq t n]
/-- a list with one element set, handed on -/
def xset {α : Type} (v : α) : List α → Nat → (List α → Prop) → Prop
  | [], _, _ => False
  | _ :: t, 0, K => K (v :: t)
  | h :: t, n + 1, K => xset v t n (fun t' => K (h :: t'))
theorem xset_ok {α : Type} (v : α) : ∀ (l : List α) (n : Nat) (K : List α → Prop), xset v l n K → n < l.length ∧ K (l.set n v)
  | [], n, K, h => h.elim
  | a :: t, 0, K, h => ⟨by simp, h⟩
  | a :: t, n + 1, K, h => by
    obtain ⟨h1, h2⟩ := xset_ok v t n (fun t' => K (a :: t')) h
    exact ⟨by simp; omega, h2⟩
def xfind {β : Type} : List (Nat × β) → Nat → Option β
  | [], _ => none
  | (k, b) :: t, n => cond (Nat.beq k n) (some b) (xfind t n)
theorem xfind_mem {β : Type} : ∀ (l : List (Nat × β)) (n : Nat) (b : β), xfind l n = some b → (n, b) ∈ l
  | [], n, b, h => by simp [xfind] at h
  | (k, b') :: t, n, b, h => by
    unfold xfind at h
    cases hk : Nat.beq k n with
    | true =>
      rw [hk] at h
      have hb : b' = b := Option.some.inj h
      rw [Nat.eq_of_beq_eq_true hk, hb]
      exact List.mem_cons_self
    | false =>
      rw [hk] at h
      exact List.mem_cons_of_mem _ (xfind_mem t n b h)
/-- locals -/
def xL (ad : Nat → Nat) (nL : Nat) (lv : List (Option Value)) (ls : Array Slot) : Prop := ls.size = nL ∧ lv_wf ls ∧ lv.length = nL ∧ ∀ (i : Nat) (v : Value), lv[i]? = some (some v) → ls[i]? = some (.val (xv ad v))
def xlp (ad : Nat → Nat) (lv : List (Option Value)) : List (Nat × Value) := (List.range lv.length).filterMap (fun i => ((lv[i]?).join).map (fun v => (i, xv ad v)))
theorem xlp_mem {ad : Nat → Nat} {lv : List (Option Value)} {q : Nat × Value} : q ∈ xlp ad lv ↔ ∃ v, lv[q.1]? = some (some v) ∧ q.2 = xv ad v := by
  unfold xlp
  rw [List.mem_filterMap]
  constructor
  · rintro ⟨i, -, h⟩
    cases hj : lv[i]? with
    | none => rw [hj] at h; cases h
    | some o =>
      rw [hj] at h
      cases o with
      | none => cases h
      | some v =>
        cases h
        exact ⟨v, hj, rfl⟩
  · rintro ⟨v, h1, h2⟩
    refine ⟨q.1, List.mem_range.mpr (List.getElem?_eq_some_iff.mp h1).1, ?_⟩
    rw [h1]
    simp [← h2]
theorem xL.has {ad : Nat → Nat} {nL : Nat} {lv : List (Option Value)} {ls : Array Slot} (h : xL ad nL lv ls) : lv_has ls nL (xlp ad lv) := by
  refine ⟨h.1, h.2.1, fun q hq => ?_⟩
  obtain ⟨v, h1, h2⟩ := xlp_mem.mp hq
  rw [h2]
  exact h.2.2.2 _ _ h1
def xcl (o : Option Value) (K : Option Value → Prop) : Prop := match o with
  | none => K none
  | some w => cond (Nat.beq w.category 2) (K none) (K (some w))
/-- a value stored into the locals -/
def xst (v : Value) : List (Option Value) → Nat → (List (Option Value) → Prop) → Prop
  | [], _, _ => False
  | _ :: t, 0, K => cond (Nat.beq v.category 2) (match t with | [] => False | _ :: t2 => K (some v :: none :: t2)) (K (some v :: t))
  | o :: t, 1, K => xcl o (fun o' => xst v t 0 (fun t' => K (o' :: t')))
  | o :: t, n + 2, K => xst v t (n + 1) (fun t' => K (o :: t'))
def xstP (v : Value) (i : Nat) (lv lv' : List (Option Value)) : Prop := lv'.length = lv.length ∧ i < lv.length ∧ (v.category = 2 → i + 1 < lv.length) ∧ ∀ (j : Nat) (w : Value), lv'[j]? = some (some w) → (j = i ∧ w = v) ∨ (lv[j]? = some (some w) ∧ j ≠ i ∧ ¬ (v.category = 2 ∧ j = i + 1) ∧ ¬ (j + 1 = i ∧ w.category = 2))
theorem xst_ok0 (v : Value) (o : Option Value) (t : List (Option Value)) (K : List (Option Value) → Prop) (h : xst v (o :: t) 0 K) : ∃ lv', K lv' ∧ xstP v 0 (o :: t) lv' := by
  unfold xst at h
  rcases lv_cat v with hc | hc
  · rw [hc] at h
    refine ⟨_, h, rfl, by simp, fun h9 => by omega, fun j w hj => ?_⟩
    cases j with
    | zero => simp at hj; exact Or.inl ⟨rfl, hj.symm⟩
    | succ j => simp at hj; exact Or.inr ⟨by simpa using hj, by omega, by omega, by omega⟩
  · rw [hc] at h
    cases t with
    | nil => exact h.elim
    | cons b t =>
      refine ⟨_, h, rfl, by simp, fun h9 => by simp, fun j w hj => ?_⟩
      cases j with
      | zero => simp at hj; exact Or.inl ⟨rfl, hj.symm⟩
      | succ j =>
        cases j with
        | zero => simp at hj
        | succ j => simp at hj; exact Or.inr ⟨by simpa using hj, by omega, by omega, by omega⟩
theorem xst_ok (v : Value) : ∀ (lv : List (Option Value)) (i : Nat) (K : List (Option Value) → Prop), xst v lv i K → ∃ lv', K lv' ∧ xstP v i lv lv'
  | [], _, _, h => by simp [xst] at h
  | o :: t, 0, K, h => xst_ok0 v o t K h
  | o :: t, 1, K, h => by
    unfold xst at h
    have key : ∀ o' : Option Value, (∀ w, o' = some w → o = some w ∧ ¬ w.category = 2) → xst v t 0 (fun t' => K (o' :: t')) → ∃ lv', K lv' ∧ xstP v 1 (o :: t) lv' := by
      intro o' ho h
      obtain ⟨t', h1, h2, h3, h4, h5⟩ := xst_ok v t 0 _ h
      refine ⟨_, h1, by simp [h2], by simp; omega, fun h9 => by simp; have := h4 h9; omega, fun j w hj => ?_⟩
      cases j with
      | zero =>
        simp at hj
        obtain ⟨h6, h7⟩ := ho w hj
        exact Or.inr ⟨by simp [h6], by omega, by omega, fun h => h7 h.2⟩
      | succ j =>
        simp at hj
        rcases h5 j w hj with ⟨h6, h7⟩ | ⟨h6, h7, h8, h9⟩
        · exact Or.inl ⟨by omega, h7⟩
        · exact Or.inr ⟨by simpa using h6, by omega, fun hh => h8 ⟨hh.1, by omega⟩, fun hh => by omega⟩
    unfold xcl at h
    cases o with
    | none => exact key none (fun w h9 => by cases h9) h
    | some w =>
      dsimp only at h
      rcases lv_cat w with hc | hc
      · rw [hc] at h
        exact key (some w) (fun w2 h9 => by cases h9; exact ⟨rfl, by omega⟩) h
      · rw [hc] at h
        exact key none (fun w h9 => by cases h9) h
  | o :: t, n + 2, K, h => by
    unfold xst at h
    obtain ⟨t', h1, h2, h3, h4, h5⟩ := xst_ok v t (n + 1) _ h
    refine ⟨_, h1, by simp [h2], by simp; omega, fun h9 => by simp; have := h4 h9; omega, fun j w hj => ?_⟩
    cases j with
    | zero =>
      simp at hj
      exact Or.inr ⟨by simp [hj], by omega, by omega, by omega⟩
    | succ j =>
      simp at hj
      rcases h5 j w hj with ⟨h6, h7⟩ | ⟨h6, h7, h8, h9⟩
      · exact Or.inl ⟨by omega, h7⟩
      · exact Or.inr ⟨by simpa using h6, by omega, fun hh => h8 ⟨hh.1, by omega⟩, fun hh => h9 ⟨by omega, hh.2⟩⟩
theorem xL_put1 {ad : Nat → Nat} {nL i : Nat} {v : Value} {lv lv' : List (Option Value)} {ls' : Array Slot} (hc : v.category = 1) (hp : xstP v i lv lv') (hn : lv.length = nL) (h : lv_has ls' nL ((i, xv ad v) :: (xlp ad lv).filter (fun q => !(q.1 == i) && !(q.1 + 1 == i && q.2.category == 2)))) : xL ad nL lv' ls' := by
  refine ⟨h.1, h.2.1, hp.1.trans hn, fun j w hj => ?_⟩
  rcases hp.2.2.2 j w hj with ⟨rfl, rfl⟩ | ⟨h1, h2, h3, h4⟩
  · exact h.2.2 (_, _) List.mem_cons_self
  · refine h.2.2 (j, xv ad w) (List.mem_cons_of_mem _ (List.mem_filter.mpr ⟨xlp_mem.mpr ⟨w, h1, rfl⟩, ?_⟩))
    simp only [xv_cat, Bool.and_eq_true, Bool.not_eq_true', beq_eq_false_iff_ne, ne_eq, Bool.and_eq_false_iff]
    refine ⟨h2, ?_⟩
    by_cases h5 : j + 1 = i
    · exact Or.inr (fun h6 => h4 ⟨h5, h6⟩)
    · exact Or.inl h5
theorem xL_put2 {ad : Nat → Nat} {nL i : Nat} {v : Value} {lv lv' : List (Option Value)} {ls' : Array Slot} (hc : v.category = 2) (hp : xstP v i lv lv') (hn : lv.length = nL) (h : lv_has ls' nL ((i, xv ad v) :: (xlp ad lv).filter (fun q => !(q.1 == i) && (!(q.1 == i + 1) && !(q.1 + 1 == i && q.2.category == 2))))) : xL ad nL lv' ls' := by
  refine ⟨h.1, h.2.1, hp.1.trans hn, fun j w hj => ?_⟩
  rcases hp.2.2.2 j w hj with ⟨rfl, rfl⟩ | ⟨h1, h2, h3, h4⟩
  · exact h.2.2 (_, _) List.mem_cons_self
  · refine h.2.2 (j, xv ad w) (List.mem_cons_of_mem _ (List.mem_filter.mpr ⟨xlp_mem.mpr ⟨w, h1, rfl⟩, ?_⟩))
    simp only [xv_cat, Bool.and_eq_true, Bool.not_eq_true', beq_eq_false_iff_ne, ne_eq, Bool.and_eq_false_iff]
    refine ⟨h2, fun h9 => h3 ⟨hc, h9⟩, ?_⟩
    by_cases h5 : j + 1 = i
    · exact Or.inr (fun h6 => h4 ⟨h5, h6⟩)
    · exact Or.inl h5
end
section
/-! the tables' words that every method may use, and those of nest mates -/
def xT : List Cond := lw_tbl.filter goodWord
theorem xT_of {w : Cond} (h : w ∈ lw_tbl) (g : goodWord w = true) : w ∈ xT := List.mem_filter.mpr ⟨h, g⟩
theorem xT_at {w : Cond} (i : Nat) (h : tables_1[i]? = some w) (g : goodWord w = true) : w ∈ xT := xT_of (List.mem_append_right _ (List.mem_of_getElem? h)) g
theorem xT_priv {y : MethodName} {n : Nat} (i : Nat) (h : lw_privs[i]? = some (y, n)) : Cond.selects y.cls y y ∈ xT := by
  refine xT_of (List.mem_append_left _ ?_) rfl
  exact List.mem_map.mpr ⟨(y, n), List.mem_of_getElem? h, rfl⟩
def xnest (w : Cond) : Bool := match w with
  | .fieldLinkNest .. => true
  | .methodLinkNest .. => true
  | _ => false
def xN (U : State) : Prop := ∀ w ∈ tables_1, xnest w = true → va_Nw w U
theorem xN.warm {s U : State} (hW : s.WarmedH U.vm) (h : xN s) : xN U := by
  intro w hw hn
  have h1 := h w hw hn
  cases w <;> first | (exact va_Nw.warmF hW h1) | (exact va_Nw.warmM hW h1) | (cases hn)
theorem xN.same {u U : State} (hv : u.vm = U.vm) (h : xN u) : xN U := by
  intro w hw hn
  refine va_Nw.same ?_ hv (h w hw hn)
  cases w <;> first | rfl | (cases hn)
def xty (kI kJ kQ : ClassId) : List (ClassId × FieldType) := [(kI, .int), (kJ, .long), (kQ, .array .long)]
/-- what holds of a method's frame all along -/
def xS (p : Program) (s : State) (m : MethodId) (args : Array Value) (c : Code) (dC : Nat → ClassId) (dI : Nat → Nat → Nat) (kI kJ kQ : ClassId) (own : String) (cc : ByteArray) (nL : Nat) : Prop :=
  p.tables.exec = Jvm.exec ∧ c.code = cc ∧ c.maxLocals = nL ∧ s.vm.findClass own = some m.cls ∧ (∀ w ∈ xT, w.before args s = true) ∧ va_K (dC, dI) vwCl (xty kI kJ kQ) s ∧ xN s
/-- the machine, from this point on, comes to its end; the world is given by places -/
def xW (p : Program) (l : Launch) (e : Env) (R : Room) (s : State) (m : MethodId) (args : Array Value) (below : List Frame) (meth : Method) (c : Code) (Q : State → Prop) (dC : Nat → ClassId) (dI : Nat → Nat → Nat) (ad : Nat → Nat) (kI kJ kQ : ClassId) (A : Nat → Prop) (H0 : Heap) (nL cells slots : Nat) (pc : Nat) (lv : List (Option Value)) (st : List Value) (G : List xE) : Prop :=
  ∀ (H : Heap) (locs : List Loc) (ls : Array Slot), va_P (dC, dI) vwCl (xw ad kI kJ kQ G) H → va_D A (xw ad kI kJ kQ G) → va_S A H0 H locs → xL ad nL lv ls → W p l e R s m args below meth c H locs cells slots Q (F0 m pc ls (st.map (xv ad)))
/-- which fields a class file's entries name: entry, class, place, how it may be written (1 int, 2 long) -/
abbrev xF : Type := Nat × Nat × Nat × Nat
def xFok (own : String) (q : xF) : Prop := ∃ (C : String) (T : u_T) (N : Nat) (ty0 : Nat → FieldType), vwCl[q.2.1]? = some (C, T, N) ∧ q.2.2.1 < N ∧ (∀ w ∈ u_ws C T N, w ∈ xT) ∧ (∀ k, k < N → parseFieldDescriptor (T k).2.2.1 = some (ty0 k)) ∧ (∀ a, a < N → ∀ b, b < N → a ≠ b → (T a).2.1 ≠ (T b).2.1) ∧ (T q.2.2.1).1 = C ∧
  (Cond.fieldLink own q.1 C (T q.2.2.1).2.1 (T q.2.2.1).2.2.1 ∈ xT ∨ ∃ host, Cond.fieldLinkNest own q.1 C (T q.2.2.1).2.1 (T q.2.2.1).2.2.1 host ∈ tables_1) ∧
  (q.2.2.2 = 1 → (T q.2.2.1).2.2.2 = false ∧ ty0 q.2.2.1 = .int) ∧ (q.2.2.2 = 2 → (T q.2.2.1).2.2.2 = false ∧ ty0 q.2.2.1 = .long) ∧ (q.2.2.2 ≠ 0 → Cond.fieldLink own q.1 C (T q.2.2.1).2.1 (T q.2.2.1).2.2.1 ∈ xT)
abbrev xH : Type := List Value → List xE → (List Value → List xE → Prop) → Prop
def xin (i : Int32) (n : Nat) : Bool := (!decide (i < 0)) && decide (i.toNatClampNeg < n)
theorem xin_ok {i : Int32} {n : Nat} (h : xin i n = true) : vp_in i n := by
  unfold xin at h
  simp only [Bool.and_eq_true, Bool.not_eq_true', decide_eq_false_iff_not, decide_eq_true_eq] at h
  rintro (h1 | h1)
  · exact h.1 h1
  · omega
def xnar (ret : Option FieldType) (x : Int32) : Bool := match ret with
  | some .int => true
  | some .boolean => decide (narrow .boolean (.int x) = .int x)
  | _ => false
def xjmp (code : List xI) (t : Int) : List xI := match code with
  | [] => []
  | i :: cs => cond (decide ((i.1 : Int) = t)) (i :: cs) (xjmp cs t)
/-- a jump; out of the list: a stop -/
def xto (code : List xI) (t : Int) (K : Nat → Prop) (go : List xI → Prop) : Prop := match xjmp code t with
  | [] => cond (decide (((t.toNat : Nat) : Int) = t)) (K t.toNat) False
  | i :: cs => go (i :: cs)
def xldi (lv : List (Option Value)) (i : Nat) (K : Int32 → Prop) : Prop := match xnth lv i with
  | some (some (.int x)) => K x
  | _ => False
def xldl (lv : List (Option Value)) (i : Nat) (K : Int64 → Prop) : Prop := match xnth lv i with
  | some (some (.long x)) => K x
  | _ => False
def xlda (lv : List (Option Value)) (i : Nat) (K : Nat → Prop) : Prop := match xnth lv i with
  | some (some (.ref x)) => K x
  | _ => False
def xcmp (cnd : ClassFile.Cond) (x y : Int32) (A B : Prop) : Prop := match cnd with
  | .eq => cond (decide (x = y)) A B
  | .ne => cond (decide (x = y)) B A
  | .lt => cond (decide (x < y)) A B
  | .ge => cond (decide (y ≤ x)) A B
  | .gt => cond (decide (y < x)) A B
  | .le => cond (decide (x ≤ y)) A B
def xone (v : Value) : Bool := Nat.beq v.category 1
/-- one instruction -/
def xstep (code : List xI) (ft : List xF) (ct : List (Nat × Int64)) (oc : List (Nat × xH)) (ret : Option FieldType) (post : Option Value → List xE → Prop) (K : Nat → List (Option Value) → List Value → List xE → Prop) (go : List xI → List (Option Value) → List Value → List xE → Prop) (pc : Nat) (ins : Instr) (cs : List xI) (lv : List (Option Value)) (st : List Value) (G : List xE) : Prop := match ins with
  | .iconst i => go cs lv (.int (Int32.ofInt i) :: st) G
  | .bipush i => go cs lv (.int (Int8.ofInt i).toInt32 :: st) G
  | .sipush i => go cs lv (.int (Int16.ofInt i).toInt32 :: st) G
  | .lconst n => go cs lv (.long (Int64.ofNat n.val) :: st) G
  | .ldc2_w ix => (match xfind ct ix with | some v => go cs lv (.long v :: st) G | none => False)
  | .iload i => xldi lv i (fun x => go cs lv (.int x :: st) G)
  | .iload_n i => xldi lv i.val (fun x => go cs lv (.int x :: st) G)
  | .lload i => xldl lv i (fun x => go cs lv (.long x :: st) G)
  | .lload_n i => xldl lv i.val (fun x => go cs lv (.long x :: st) G)
  | .aload i => xlda lv i (fun x => go cs lv (.ref x :: st) G)
  | .aload_n i => xlda lv i.val (fun x => go cs lv (.ref x :: st) G)
  | .istore i => (match st with | .int x :: r => xst (.int x) lv i (fun lv => go cs lv r G) | _ => False)
  | .istore_n i => (match st with | .int x :: r => xst (.int x) lv i.val (fun lv => go cs lv r G) | _ => False)
  | .lstore i => (match st with | .long x :: r => xst (.long x) lv i (fun lv => go cs lv r G) | _ => False)
  | .lstore_n i => (match st with | .long x :: r => xst (.long x) lv i.val (fun lv => go cs lv r G) | _ => False)
  | .astore i => (match st with | .ref x :: r => xst (.ref x) lv i (fun lv => go cs lv r G) | _ => False)
  | .astore_n i => (match st with | .ref x :: r => xst (.ref x) lv i.val (fun lv => go cs lv r G) | _ => False)
  | .iinc i k => xldi lv i (fun x => xst (.int (x + Int32.ofInt k)) lv i (fun lv => go cs lv st G))
  | .iadd => (match st with | .int y :: .int x :: r => go cs lv (.int (x + y) :: r) G | _ => False)
  | .isub => (match st with | .int y :: .int x :: r => go cs lv (.int (x - y) :: r) G | _ => False)
  | .imul => (match st with | .int y :: .int x :: r => go cs lv (.int (x * y) :: r) G | _ => False)
  | .iand => (match st with | .int y :: .int x :: r => go cs lv (.int (x &&& y) :: r) G | _ => False)
  | .idiv => (match st with | .int y :: .int x :: r => cond (decide (y = 0)) False (go cs lv (.int (x / y) :: r) G) | _ => False)
  | .irem => (match st with | .int y :: .int x :: r => cond (decide (y = 0)) False (go cs lv (.int (x - x / y * y) :: r) G) | _ => False)
  | .ladd => (match st with | .long y :: .long x :: r => go cs lv (.long (x + y) :: r) G | _ => False)
  | .lsub => (match st with | .long y :: .long x :: r => go cs lv (.long (x - y) :: r) G | _ => False)
  | .lmul => (match st with | .long y :: .long x :: r => go cs lv (.long (x * y) :: r) G | _ => False)
  | .land => (match st with | .long y :: .long x :: r => go cs lv (.long (x &&& y) :: r) G | _ => False)
  | .ldiv => (match st with | .long y :: .long x :: r => cond (decide (y = 0)) False (go cs lv (.long (x / y) :: r) G) | _ => False)
  | .lrem => (match st with | .long y :: .long x :: r => cond (decide (y = 0)) False (go cs lv (.long (x - x / y * y) :: r) G) | _ => False)
  | .lneg => (match st with | .long x :: r => go cs lv (.long (-x) :: r) G | _ => False)
  | .lshr => (match st with | .int y :: .long x :: r => go cs lv (.long (x >>> (y.toInt64 &&& 63)) :: r) G | _ => False)
  | .lcmp => (match st with | .long y :: .long x :: r => go cs lv (.int (lg_cmp x y) :: r) G | _ => False)
  | .i2l => (match st with | .int x :: r => go cs lv (.long x.toInt64 :: r) G | _ => False)
  | .l2i => (match st with | .long x :: r => go cs lv (.int x.toInt32 :: r) G | _ => False)
  | .dup => (match st with | v :: r => cond (xone v) (go cs lv (v :: v :: r) G) False | _ => False)
  | .pop => (match st with | v :: r => cond (xone v) (go cs lv r G) False | _ => False)
  | .dup2 => (match st with | v :: w :: r => cond (xone v && xone w) (go cs lv (v :: w :: v :: w :: r) G) False | _ => False)
  | .ifCond cnd off => (match st with | .int x :: r => xcmp cnd x 0 (xto code ((pc : Int) + off) (fun t => K t lv r G) (fun cs => go cs lv r G)) (go cs lv r G) | _ => False)
  | .if_icmp cnd off => (match st with | .int y :: .int x :: r => xcmp cnd x y (xto code ((pc : Int) + off) (fun t => K t lv r G) (fun cs => go cs lv r G)) (go cs lv r G) | _ => False)
  | .goto off => xto code ((pc : Int) + off) (fun t => K t lv st G) (fun cs => go cs lv st G)
  | .getfield ix => (match st with
    | .ref k :: r => (match xfind ft ix with
      | some (ci, j, _) => (match xnth G k with
        | some (.inr (ci2, fs)) => cond (Nat.beq ci2 ci) (match xnth fs j with | some v => go cs lv (v :: r) G | none => False) False
        | _ => False)
      | none => False)
    | _ => False)
  | .putfield ix => (match st with
    | .int x :: .ref k :: r => (match xfind ft ix with
      | some (ci, j, 1) => (match xnth G k with
        | some (.inr (ci2, fs)) => cond (Nat.beq ci2 ci) (xset (.int x) fs j (fun fs => xset (.inr (ci2, fs)) G k (fun G => go cs lv r G))) False
        | _ => False)
      | _ => False)
    | .long x :: .ref k :: r => (match xfind ft ix with
      | some (ci, j, 2) => (match xnth G k with
        | some (.inr (ci2, fs)) => cond (Nat.beq ci2 ci) (xset (.long x) fs j (fun fs => xset (.inr (ci2, fs)) G k (fun G => go cs lv r G))) False
        | _ => False)
      | _ => False)
    | _ => False)
  | .iaload => (match st with
    | .int i :: .ref k :: r => (match xnth G k with
      | some (.inl (n, .inl f)) => cond (xin i n) (go cs lv (.int (f i.toNatClampNeg) :: r) G) False
      | _ => False)
    | _ => False)
  | .laload => (match st with
    | .int i :: .ref k :: r => (match xnth G k with
      | some (.inl (n, .inr (.inl f))) => cond (xin i n) (go cs lv (.long (f i.toNatClampNeg) :: r) G) False
      | _ => False)
    | _ => False)
  | .aaload => (match st with
    | .int i :: .ref k :: r => (match xnth G k with
      | some (.inl (n, .inr (.inr (.inr (.inr f))))) => cond (xin i n) (match f i.toNatClampNeg with | some q => go cs lv (.ref q :: r) G | none => False) False
      | _ => False)
    | _ => False)
  | .iastore => (match st with
    | .int x :: .int i :: .ref k :: r => (match xnth G k with
      | some (.inl (n, .inl f)) => cond (xin i n) (xset (.inl (n, .inl (upd f i.toNatClampNeg x))) G k (fun G => go cs lv r G)) False
      | _ => False)
    | _ => False)
  | .lastore => (match st with
    | .long x :: .int i :: .ref k :: r => (match xnth G k with
      | some (.inl (n, .inr (.inl f))) => cond (xin i n) (xset (.inl (n, .inr (.inl (vp_updL f i.toNatClampNeg x)))) G k (fun G => go cs lv r G)) False
      | _ => False)
    | _ => False)
  | .arraylength => (match st with
    | .ref k :: r => (match xnth G k with
      | some (.inl (n, .inl _)) => go cs lv (.int (Int32.ofNat n) :: r) G
      | some (.inl (n, .inr (.inl _))) => go cs lv (.int (Int32.ofNat n) :: r) G
      | _ => False)
    | _ => False)
  | .invokevirtual ix => (match xfind oc ix with | some h => h st G (fun st G => go cs lv st G) | none => K pc lv st G)
  | .invokestatic ix => (match xfind oc ix with | some h => h st G (fun st G => go cs lv st G) | none => K pc lv st G)
  | .ireturn => (match st with | [.int x] => cond (xnar ret x) (post (some (.int x)) G) False | _ => False)
  | .lreturn => (match st with | [.long x] => (match ret with | some .long => post (some (.long x)) G | _ => False) | _ => False)
  | .return_ => (match st with | [] => (match ret with | none => post none G | _ => False) | _ => False)
  | _ => K pc lv st G
/-- a stretch of at most n instructions; it stops at the places bp, and at what it can't do -/
def xex (code : List xI) (ft : List xF) (ct : List (Nat × Int64)) (oc : List (Nat × xH)) (ret : Option FieldType) (post : Option Value → List xE → Prop) (K : Nat → List (Option Value) → List Value → List xE → Prop) (bp : List Nat) : Nat → Bool → List xI → List (Option Value) → List Value → List xE → Prop
  | _, _, [], _, _, _ => False
  | 0, _, i :: _, lv, st, G => K i.1 lv st G
  | n + 1, fr, (pc, ins, _) :: cs, lv, st, G => cond (fr && bp.any (fun b => Nat.beq b pc)) (K pc lv st G) (xstep code ft ct oc ret post K (xex code ft ct oc ret post K bp n true) pc ins cs lv st G)
end
section
/-! the executor is sound -/
theorem xsf.tail {cc : ByteArray} {i : xI} {cs : List xI} (h : xsf cc (i :: cs)) : xsf cc cs := by
  obtain ⟨h1, h2⟩ := h
  obtain ⟨pc, ins, len⟩ := i
  unfold xwf at h1
  simp only [Bool.and_eq_true] at h1
  simp only [List.all_cons, Bool.and_eq_true] at h2
  exact ⟨h1.2, h2.2⟩
theorem xsf.dec {cc : ByteArray} {pc len : Nat} {ins : Instr} {cs : List xI} (h : xsf cc ((pc, ins, len) :: cs)) : decode cc pc = .ok (ins, len) := by
  obtain ⟨h1, h2⟩ := h
  unfold xwf at h1
  simp only [Bool.and_eq_true, decide_eq_true_eq] at h1
  exact h1.1.1
theorem xsf.len {cc : ByteArray} {pc len : Nat} {ins : Instr} {cs : List xI} (h : xsf cc ((pc, ins, len) :: cs)) : xlok (pc, ins, len) = true := by
  obtain ⟨h1, h2⟩ := h
  simp only [List.all_cons, Bool.and_eq_true] at h2
  exact h2.1
theorem xsf.next {cc : ByteArray} {pc len : Nat} {ins : Instr} {i : xI} {cs : List xI} (h : xsf cc ((pc, ins, len) :: i :: cs)) : i.1 = pc + len := by
  obtain ⟨h1, h2⟩ := h
  unfold xwf at h1
  simp only [Bool.and_eq_true, decide_eq_true_eq] at h1
  exact h1.1.2
theorem xsf.jmp {cc : ByteArray} {t : Int} : ∀ (cs : List xI), xsf cc cs → xsf cc (xjmp cs t) ∧ ∀ i r, xjmp cs t = i :: r → (i.1 : Int) = t
  | [], h => ⟨h, fun i r h => by simp [xjmp] at h⟩
  | i :: cs, h => by
    unfold xjmp
    by_cases hd : (i.1 : Int) = t
    · simp only [hd, decide_true, cond_true]
      exact ⟨h, fun i' r h' => by cases h'; exact hd⟩
    · simp only [hd, decide_false, cond_false]
      exact xsf.jmp cs h.tail
theorem xcmp_of {cnd : ClassFile.Cond} {x y : Int32} {A B : Prop} (h : xcmp cnd x y A B) : (match cnd with
    | .eq => (x = y → A) ∧ (¬ x = y → B)
    | .ne => (¬ x = y → A) ∧ (x = y → B)
    | .lt => (x < y → A) ∧ (¬ x < y → B)
    | .ge => (y ≤ x → A) ∧ (¬ y ≤ x → B)
    | .gt => (y < x → A) ∧ (¬ y < x → B)
    | .le => (x ≤ y → A) ∧ (¬ x ≤ y → B)) := by
  cases cnd <;> simp only [xcmp] at h <;> refine ⟨fun q => ?_, fun q => ?_⟩ <;> simpa [q] using h
section XSND
variable {p : Program} {l : Launch} {e : Env} {R : Room} {s : State} {m : MethodId} {args : Array Value} {below : List Frame} {meth : Method} {c : Code} {Q : State → Prop} {dC : Nat → ClassId} {dI : Nat → Nat → Nat} {ad : Nat → Nat} {kI kJ kQ : ClassId} {A : Nat → Prop} {H0 : Heap} {nL cells slots : Nat} {own : String} {cc : ByteArray}
/-- the machine at the head of a suffix -/
def xWs (p : Program) (l : Launch) (e : Env) (R : Room) (s : State) (m : MethodId) (args : Array Value) (below : List Frame) (meth : Method) (c : Code) (Q : State → Prop) (dC : Nat → ClassId) (dI : Nat → Nat → Nat) (ad : Nat → Nat) (kI kJ kQ : ClassId) (A : Nat → Prop) (H0 : Heap) (nL cells slots : Nat) (cs : List xI) (lv : List (Option Value)) (st : List Value) (G : List xE) : Prop :=
  ∃ i r, cs = i :: r ∧ xW p l e R s m args below meth c Q dC dI ad kI kJ kQ A H0 nL cells slots i.1 lv st G
/-- a call that the run knows: from behind it to before it -/
def xHk (p : Program) (l : Launch) (e : Env) (R : Room) (s : State) (m : MethodId) (args : Array Value) (below : List Frame) (meth : Method) (c : Code) (Q : State → Prop) (dC : Nat → ClassId) (dI : Nat → Nat → Nat) (ad : Nat → Nat) (kI kJ kQ : ClassId) (A : Nat → Prop) (H0 : Heap) (nL cells slots : Nat) (cc : ByteArray) (q : Nat × xH) : Prop :=
  ∀ (pc : Nat) (lv : List (Option Value)) (st : List Value) (G : List xE) (K : List Value → List xE → Prop), (decode cc pc = .ok (.invokevirtual q.1, 3) ∨ decode cc pc = .ok (.invokestatic q.1, 3)) →
    (∀ st G, K st G → xW p l e R s m args below meth c Q dC dI ad kI kJ kQ A H0 nL cells slots (pc + 3) lv st G) → q.2 st G K → xW p l e R s m args below meth c Q dC dI ad kI kJ kQ A H0 nL cells slots pc lv st G
theorem xW_load {pc n : Nat} {lv : List (Option Value)} {st : List Value} {G : List xE} {i : Nat} {v : Value} (h : xnth lv i = some (some v))
    (k : ∀ (H : Heap) (locs : List Loc) (ls : Array Slot), ls[i]? = some (.val (xv ad v)) → W p l e R s m args below meth c H locs cells slots Q (F0 m (pc + n) ls (xv ad v :: st.map (xv ad))) → W p l e R s m args below meth c H locs cells slots Q (F0 m pc ls (st.map (xv ad))))
    (hn : xW p l e R s m args below meth c Q dC dI ad kI kJ kQ A H0 nL cells slots (pc + n) lv (v :: st) G) : xW p l e R s m args below meth c Q dC dI ad kI kJ kQ A H0 nL cells slots pc lv st G := by
  intro H locs ls hP hD hS hL
  rw [xnth_eq] at h
  exact k H locs ls (hL.2.2.2 i v h) (hn H locs ls hP hD hS hL)
theorem xW_store1 {pc n : Nat} {lv : List (Option Value)} {st st2 : List Value} {G : List xE} {i : Nat} {v : Value} {K : List (Option Value) → Prop} (hc : v.category = 1)
    (h : xst v lv i K)
    (k : ∀ (H : Heap) (locs : List Loc) (ls : Array Slot), lv_has ls nL (xlp ad lv) → i < nL → (∀ ls' : Array Slot, lv_has ls' nL ((i, xv ad v) :: (xlp ad lv).filter (fun q => !(q.1 == i) && !(q.1 + 1 == i && q.2.category == 2))) → W p l e R s m args below meth c H locs cells slots Q (F0 m (pc + n) ls' (st.map (xv ad)))) → W p l e R s m args below meth c H locs cells slots Q (F0 m pc ls (st2.map (xv ad))))
    (hn : ∀ lv', K lv' → xW p l e R s m args below meth c Q dC dI ad kI kJ kQ A H0 nL cells slots (pc + n) lv' st G) : xW p l e R s m args below meth c Q dC dI ad kI kJ kQ A H0 nL cells slots pc lv st2 G := by
  intro H locs ls hP hD hS hL
  obtain ⟨lv', h1, h2⟩ := xst_ok v lv i K h
  refine k H locs ls hL.has (by have := h2.2.1; have := hL.2.2.1; omega) (fun ls' h9 => ?_)
  exact hn lv' h1 H locs ls' hP hD hS (xL_put1 hc h2 hL.2.2.1 h9)
theorem xW_store2 {pc n : Nat} {lv : List (Option Value)} {st st2 : List Value} {G : List xE} {i : Nat} {v : Value} {K : List (Option Value) → Prop} (hc : v.category = 2)
    (h : xst v lv i K)
    (k : ∀ (H : Heap) (locs : List Loc) (ls : Array Slot), lv_has ls nL (xlp ad lv) → i + 1 < nL → (∀ ls' : Array Slot, lv_has ls' nL ((i, xv ad v) :: (xlp ad lv).filter (fun q => !(q.1 == i) && (!(q.1 == i + 1) && !(q.1 + 1 == i && q.2.category == 2)))) → W p l e R s m args below meth c H locs cells slots Q (F0 m (pc + n) ls' (st.map (xv ad)))) → W p l e R s m args below meth c H locs cells slots Q (F0 m pc ls (st2.map (xv ad))))
    (hn : ∀ lv', K lv' → xW p l e R s m args below meth c Q dC dI ad kI kJ kQ A H0 nL cells slots (pc + n) lv' st G) : xW p l e R s m args below meth c Q dC dI ad kI kJ kQ A H0 nL cells slots pc lv st2 G := by
  intro H locs ls hP hD hS hL
  obtain ⟨lv', h1, h2⟩ := xst_ok v lv i K h
  refine k H locs ls hL.has (by have := h2.2.2.1 hc; have := hL.2.2.1; omega) (fun ls' h9 => ?_)
  exact hn lv' h1 H locs ls' hP hD hS (xL_put2 hc h2 hL.2.2.1 h9)
set_option maxHeartbeats 4000000 in
theorem xstep_ok {code : List xI} {ft : List xF} {ct : List (Nat × Int64)} {oc : List (Nat × xH)} {ret : Option FieldType} {post : Option Value → List xE → Prop} {K : Nat → List (Option Value) → List Value → List xE → Prop} {go : List xI → List (Option Value) → List Value → List xE → Prop} {pc len : Nat} {ins : Instr} {cs : List xI} {lv : List (Option Value)} {st : List Value} {G : List xE}
    (hS : xS p s m args c dC dI kI kJ kQ own cc nL) (hft : ∀ q ∈ ft, xFok own q) (hct : ∀ q ∈ ct, Cond.constantLong own q.1 q.2 ∈ xT) (hoc : ∀ q ∈ oc, xHk p l e R s m args below meth c Q dC dI ad kI kJ kQ A H0 nL cells slots cc q)
    (hcode : xsf cc code) (hcs : xsf cc ((pc, ins, len) :: cs)) (hgo : ∀ cs lv st G, xsf cc cs → go cs lv st G → xWs p l e R s m args below meth c Q dC dI ad kI kJ kQ A H0 nL cells slots cs lv st G)
    (hK : ∀ pc lv st G, K pc lv st G → xW p l e R s m args below meth c Q dC dI ad kI kJ kQ A H0 nL cells slots pc lv st G)
    (hI : ∀ pc lv x G, decode cc pc = .ok (.ireturn, 1) → xnar ret x = true → post (some (.int x)) G → xW p l e R s m args below meth c Q dC dI ad kI kJ kQ A H0 nL cells slots pc lv [.int x] G)
    (hJ : ∀ pc lv x G, decode cc pc = .ok (.lreturn, 1) → ret = some .long → post (some (.long x)) G → xW p l e R s m args below meth c Q dC dI ad kI kJ kQ A H0 nL cells slots pc lv [.long x] G)
    (hV : ∀ pc lv G, decode cc pc = .ok (.return_, 1) → ret = none → post none G → xW p l e R s m args below meth c Q dC dI ad kI kJ kQ A H0 nL cells slots pc lv [] G)
    (h : xstep code ft ct oc ret post K go pc ins cs lv st G) : xW p l e R s m args below meth c Q dC dI ad kI kJ kQ A H0 nL cells slots pc lv st G := by
  obtain ⟨hx, hb, hml, hown, hts, hKK, hN⟩ := hS
  have hdg := hcs.dec
  have hlen := hcs.len
  have hnx : ∀ lv st G, go cs lv st G → xW p l e R s m args below meth c Q dC dI ad kI kJ kQ A H0 nL cells slots (pc + len) lv st G := by
    intro lv st G hg
    obtain ⟨i, r, rfl, h2⟩ := hgo cs lv st G hcs.tail hg
    rw [← hcs.next]
    exact h2
  have hto : ∀ (t : Int) lv r G, xto code t (fun t => K t lv r G) (fun cs => go cs lv r G) → xW p l e R s m args below meth c Q dC dI ad kI kJ kQ A H0 nL cells slots t.toNat lv r G := by
    intro t lv r G hg
    unfold xto at hg
    obtain ⟨j1, j2⟩ := xsf.jmp (t := t) code hcode
    split at hg
    next hj =>
      by_cases hd : ((t.toNat : Nat) : Int) = t
      · simp only [hd, decide_true, cond_true] at hg
        exact hK _ _ _ _ hg
      · simp only [hd, decide_false, cond_false] at hg
    next i cs2 hj =>
      rw [hj] at j1 j2
      obtain ⟨i2, r2, e2, h2⟩ := hgo _ lv r G j1 hg
      cases e2
      have h3 := j2 i cs2 rfl
      rw [show t.toNat = i.1 by omega]
      exact h2
  cases ins
  case iconst i =>
    have hl : len = 1 := Nat.eq_of_beq_eq_true hlen
    subst hl
    intro H locs ls hP hD hS2 hL
    exact lv_iconst hx hb hdg rfl (hnx _ _ _ h H locs ls hP hD hS2 hL)
  case bipush i =>
    have hl : len = 2 := Nat.eq_of_beq_eq_true hlen
    subst hl
    intro H locs ls hP hD hS2 hL
    exact lv_bipush hx hb hdg rfl (hnx _ _ _ h H locs ls hP hD hS2 hL)
  case sipush i =>
    have hl : len = 3 := Nat.eq_of_beq_eq_true hlen
    subst hl
    intro H locs ls hP hD hS2 hL
    exact lv_sipush hx hb hdg rfl (hnx _ _ _ h H locs ls hP hD hS2 hL)
  case lconst i =>
    have hl : len = 1 := Nat.eq_of_beq_eq_true hlen
    subst hl
    intro H locs ls hP hD hS2 hL
    exact lv_lconst hx hb hdg rfl (hnx _ _ _ h H locs ls hP hD hS2 hL)
  case ldc2_w ix =>
    have hl : len = 3 := Nat.eq_of_beq_eq_true hlen
    subst hl
    simp only [xstep] at h
    split at h
    next v hv =>
      intro H locs ls hP hD hS2 hL
      exact lv_ldc2 hx hb hown (hts _ (hct _ (xfind_mem _ _ _ hv))) hdg (hnx _ _ _ h H locs ls hP hD hS2 hL)
    next => exact h.elim
  case iload i =>
    have hl : len = 2 := Nat.eq_of_beq_eq_true hlen
    subst hl
    simp only [xstep, xldi] at h
    split at h
    next x hv => exact xW_load hv (fun H locs ls h1 k => lv_iload hx hb hdg h1 k) (hnx _ _ _ h)
    next => exact h.elim
  case iload_n i =>
    have hl : len = 1 := Nat.eq_of_beq_eq_true hlen
    subst hl
    simp only [xstep, xldi] at h
    split at h
    next x hv => exact xW_load hv (fun H locs ls h1 k => lv_iload_n hx hb hdg rfl h1 k) (hnx _ _ _ h)
    next => exact h.elim
  case lload i =>
    have hl : len = 2 := Nat.eq_of_beq_eq_true hlen
    subst hl
    simp only [xstep, xldl] at h
    split at h
    next x hv => exact xW_load hv (fun H locs ls h1 k => lv_lload hx hb hdg h1 k) (hnx _ _ _ h)
    next => exact h.elim
  case lload_n i =>
    have hl : len = 1 := Nat.eq_of_beq_eq_true hlen
    subst hl
    simp only [xstep, xldl] at h
    split at h
    next x hv => exact xW_load hv (fun H locs ls h1 k => lv_lload_n hx hb hdg rfl h1 k) (hnx _ _ _ h)
    next => exact h.elim
  case aload i =>
    have hl : len = 2 := Nat.eq_of_beq_eq_true hlen
    subst hl
    simp only [xstep, xlda] at h
    split at h
    next x hv => exact xW_load hv (fun H locs ls h1 k => lv_aload hx hb hdg h1 k) (hnx _ _ _ h)
    next => exact h.elim
  case aload_n i =>
    have hl : len = 1 := Nat.eq_of_beq_eq_true hlen
    subst hl
    simp only [xstep, xlda] at h
    split at h
    next x hv => exact xW_load hv (fun H locs ls h1 k => lv_aload_n hx hb hdg rfl h1 k) (hnx _ _ _ h)
    next => exact h.elim
  case istore i =>
    have hl : len = 2 := Nat.eq_of_beq_eq_true hlen
    subst hl
    simp only [xstep] at h
    split at h
    next x r => exact xW_store1 rfl h (fun H locs ls h1 h2 k => lv_istore hx hb hdg h1 h2 rfl k) (fun lv' h => hnx _ _ _ h)
    next => exact h.elim
  case istore_n i =>
    have hl : len = 1 := Nat.eq_of_beq_eq_true hlen
    subst hl
    simp only [xstep] at h
    split at h
    next x r => exact xW_store1 rfl h (fun H locs ls h1 h2 k => lv_istore_n hx hb hdg rfl h1 h2 rfl k) (fun lv' h => hnx _ _ _ h)
    next => exact h.elim
  case lstore i =>
    have hl : len = 2 := Nat.eq_of_beq_eq_true hlen
    subst hl
    simp only [xstep] at h
    split at h
    next x r => exact xW_store2 rfl h (fun H locs ls h1 h2 k => lv_lstore hx hb hdg h1 h2 rfl k) (fun lv' h => hnx _ _ _ h)
    next => exact h.elim
  case lstore_n i =>
    have hl : len = 1 := Nat.eq_of_beq_eq_true hlen
    subst hl
    simp only [xstep] at h
    split at h
    next x r => exact xW_store2 rfl h (fun H locs ls h1 h2 k => lv_lstore_n hx hb hdg rfl h1 h2 rfl k) (fun lv' h => hnx _ _ _ h)
    next => exact h.elim
  case astore i =>
    have hl : len = 2 := Nat.eq_of_beq_eq_true hlen
    subst hl
    simp only [xstep] at h
    split at h
    next x r => exact xW_store1 rfl h (fun H locs ls h1 h2 k => lv_astore hx hb hdg h1 h2 rfl k) (fun lv' h => hnx _ _ _ h)
    next => exact h.elim
  case astore_n i =>
    have hl : len = 1 := Nat.eq_of_beq_eq_true hlen
    subst hl
    simp only [xstep] at h
    split at h
    next x r => exact xW_store1 rfl h (fun H locs ls h1 h2 k => lv_astore_n hx hb hdg rfl h1 h2 rfl k) (fun lv' h => hnx _ _ _ h)
    next => exact h.elim
  case iinc i n =>
    have hl : len = 3 := Nat.eq_of_beq_eq_true hlen
    subst hl
    simp only [xstep, xldi] at h
    split at h
    next x hv =>
      refine xW_store1 rfl h (fun H locs ls h1 h2 k => ?_) (fun lv' h => hnx _ _ _ h)
      have hm : (i, Value.int x) ∈ xlp ad lv := xlp_mem.mpr ⟨.int x, by rw [← xnth_eq]; exact hv, rfl⟩
      obtain ⟨q, hq⟩ := List.getElem?_of_mem hm
      exact lv_iinc hx hb hdg h1 hq rfl h2 rfl k
    next => exact h.elim
  case iadd =>
    have hl : len = 1 := Nat.eq_of_beq_eq_true hlen
    subst hl
    simp only [xstep] at h
    split at h
    next y x r =>
      intro H locs ls hP hD hS2 hL
      exact lv_iadd hx hb hdg (hnx _ _ _ h H locs ls hP hD hS2 hL)
    next => exact h.elim
  case isub =>
    have hl : len = 1 := Nat.eq_of_beq_eq_true hlen
    subst hl
    simp only [xstep] at h
    split at h
    next y x r =>
      intro H locs ls hP hD hS2 hL
      exact lv_isub hx hb hdg (hnx _ _ _ h H locs ls hP hD hS2 hL)
    next => exact h.elim
  case imul =>
    have hl : len = 1 := Nat.eq_of_beq_eq_true hlen
    subst hl
    simp only [xstep] at h
    split at h
    next y x r =>
      intro H locs ls hP hD hS2 hL
      exact lv_imul hx hb hdg (hnx _ _ _ h H locs ls hP hD hS2 hL)
    next => exact h.elim
  case iand =>
    have hl : len = 1 := Nat.eq_of_beq_eq_true hlen
    subst hl
    simp only [xstep] at h
    split at h
    next y x r =>
      intro H locs ls hP hD hS2 hL
      exact lv_iand hx hb hdg (hnx _ _ _ h H locs ls hP hD hS2 hL)
    next => exact h.elim
  case idiv =>
    have hl : len = 1 := Nat.eq_of_beq_eq_true hlen
    subst hl
    simp only [xstep] at h
    split at h
    next y x r =>
      by_cases hy : y = 0
      · simp [hy] at h
      · simp only [hy, decide_false, cond_false] at h
        intro H locs ls hP hD hS2 hL
        exact lv_idiv hx hb hdg hy (hnx _ _ _ h H locs ls hP hD hS2 hL)
    next => exact h.elim
  case irem =>
    have hl : len = 1 := Nat.eq_of_beq_eq_true hlen
    subst hl
    simp only [xstep] at h
    split at h
    next y x r =>
      by_cases hy : y = 0
      · simp [hy] at h
      · simp only [hy, decide_false, cond_false] at h
        intro H locs ls hP hD hS2 hL
        exact lv_irem hx hb hdg hy (hnx _ _ _ h H locs ls hP hD hS2 hL)
    next => exact h.elim
  case ladd =>
    have hl : len = 1 := Nat.eq_of_beq_eq_true hlen
    subst hl
    simp only [xstep] at h
    split at h
    next y x r =>
      intro H locs ls hP hD hS2 hL
      exact lv_ladd hx hb hdg (hnx _ _ _ h H locs ls hP hD hS2 hL)
    next => exact h.elim
  case lsub =>
    have hl : len = 1 := Nat.eq_of_beq_eq_true hlen
    subst hl
    simp only [xstep] at h
    split at h
    next y x r =>
      intro H locs ls hP hD hS2 hL
      exact lv_lsub hx hb hdg (hnx _ _ _ h H locs ls hP hD hS2 hL)
    next => exact h.elim
  case lmul =>
    have hl : len = 1 := Nat.eq_of_beq_eq_true hlen
    subst hl
    simp only [xstep] at h
    split at h
    next y x r =>
      intro H locs ls hP hD hS2 hL
      exact lv_lmul hx hb hdg (hnx _ _ _ h H locs ls hP hD hS2 hL)
    next => exact h.elim
  case land =>
    have hl : len = 1 := Nat.eq_of_beq_eq_true hlen
    subst hl
    simp only [xstep] at h
    split at h
    next y x r =>
      intro H locs ls hP hD hS2 hL
      exact lv_land hx hb hdg (hnx _ _ _ h H locs ls hP hD hS2 hL)
    next => exact h.elim
  case ldiv =>
    have hl : len = 1 := Nat.eq_of_beq_eq_true hlen
    subst hl
    simp only [xstep] at h
    split at h
    next y x r =>
      by_cases hy : y = 0
      · simp [hy] at h
      · simp only [hy, decide_false, cond_false] at h
        intro H locs ls hP hD hS2 hL
        exact lv_ldiv hx hb hdg hy (hnx _ _ _ h H locs ls hP hD hS2 hL)
    next => exact h.elim
  case lrem =>
    have hl : len = 1 := Nat.eq_of_beq_eq_true hlen
    subst hl
    simp only [xstep] at h
    split at h
    next y x r =>
      by_cases hy : y = 0
      · simp [hy] at h
      · simp only [hy, decide_false, cond_false] at h
        intro H locs ls hP hD hS2 hL
        exact lv_lrem hx hb hdg hy (hnx _ _ _ h H locs ls hP hD hS2 hL)
    next => exact h.elim
  case lneg =>
    have hl : len = 1 := Nat.eq_of_beq_eq_true hlen
    subst hl
    simp only [xstep] at h
    split at h
    next x r =>
      intro H locs ls hP hD hS2 hL
      exact lv_lneg hx hb hdg (hnx _ _ _ h H locs ls hP hD hS2 hL)
    next => exact h.elim
  case lshr =>
    have hl : len = 1 := Nat.eq_of_beq_eq_true hlen
    subst hl
    simp only [xstep] at h
    split at h
    next y x r =>
      intro H locs ls hP hD hS2 hL
      exact lv_lshr hx hb hdg rfl (hnx _ _ _ h H locs ls hP hD hS2 hL)
    next => exact h.elim
  case lcmp =>
    have hl : len = 1 := Nat.eq_of_beq_eq_true hlen
    subst hl
    simp only [xstep] at h
    split at h
    next y x r =>
      intro H locs ls hP hD hS2 hL
      exact W.lcmp hx hb hdg (hnx _ _ _ h H locs ls hP hD hS2 hL)
    next => exact h.elim
  case i2l =>
    have hl : len = 1 := Nat.eq_of_beq_eq_true hlen
    subst hl
    simp only [xstep] at h
    split at h
    next x r =>
      intro H locs ls hP hD hS2 hL
      exact lv_i2l hx hb hdg rfl (hnx _ _ _ h H locs ls hP hD hS2 hL)
    next => exact h.elim
  case l2i =>
    have hl : len = 1 := Nat.eq_of_beq_eq_true hlen
    subst hl
    simp only [xstep] at h
    split at h
    next x r =>
      intro H locs ls hP hD hS2 hL
      exact lv_l2i hx hb hdg rfl (hnx _ _ _ h H locs ls hP hD hS2 hL)
    next => exact h.elim
  case dup =>
    have hl : len = 1 := Nat.eq_of_beq_eq_true hlen
    subst hl
    simp only [xstep] at h
    split at h
    next v r =>
      cases hv : xone v with
      | false => rw [hv] at h; exact h.elim
      | true =>
        rw [hv] at h
        have hc : (xv ad v).category = 1 := by rw [xv_cat]; exact Nat.eq_of_beq_eq_true hv
        intro H locs ls hP hD hS2 hL
        exact lv_dup hx hb hdg hc (hnx _ _ _ h H locs ls hP hD hS2 hL)
    next => exact h.elim
  case pop =>
    have hl : len = 1 := Nat.eq_of_beq_eq_true hlen
    subst hl
    simp only [xstep] at h
    split at h
    next v r =>
      cases hv : xone v with
      | false => rw [hv] at h; exact h.elim
      | true =>
        rw [hv] at h
        have hc : (xv ad v).category = 1 := by rw [xv_cat]; exact Nat.eq_of_beq_eq_true hv
        intro H locs ls hP hD hS2 hL
        exact lv_pop hx hb hdg hc (hnx _ _ _ h H locs ls hP hD hS2 hL)
    next => exact h.elim
  case dup2 =>
    have hl : len = 1 := Nat.eq_of_beq_eq_true hlen
    subst hl
    simp only [xstep] at h
    split at h
    next v w r =>
      cases hv : (xone v && xone w) with
      | false => rw [hv] at h; exact h.elim
      | true =>
        rw [hv] at h
        simp only [Bool.and_eq_true] at hv
        have hc : (xv ad v).category = 1 := by rw [xv_cat]; exact Nat.eq_of_beq_eq_true hv.1
        have hc2 : (xv ad w).category = 1 := by rw [xv_cat]; exact Nat.eq_of_beq_eq_true hv.2
        intro H locs ls hP hD hS2 hL
        exact lv_dup2_11 hx hb hdg hc hc2 (hnx _ _ _ h H locs ls hP hD hS2 hL)
    next => exact h.elim
  case ifCond cnd off =>
    simp only [xlok, Bool.and_eq_true, decide_eq_true_eq] at hlen
    have hl : len = 3 := Nat.eq_of_beq_eq_true hlen.1
    subst hl
    have ht : (pc : Int) + off = ((((pc : Int) + off).toNat : Nat) : Int) := (Int.toNat_of_nonneg hlen.2).symm
    simp only [xstep] at h
    split at h
    next x r =>
      have h := xcmp_of h
      intro H locs ls hP hD hS2 hL
      cases cnd
      case eq => exact lv_if_eq hx hb hdg ht (fun q => hto _ _ _ _ (h.1 q) H locs ls hP hD hS2 hL) (fun q => hnx _ _ _ (h.2 q) H locs ls hP hD hS2 hL)
      case ne => exact lv_if_ne hx hb hdg ht (fun q => hto _ _ _ _ (h.1 q) H locs ls hP hD hS2 hL) (fun q => hnx _ _ _ (h.2 q) H locs ls hP hD hS2 hL)
      case lt => exact lv_if_lt hx hb hdg ht (fun q => hto _ _ _ _ (h.1 q) H locs ls hP hD hS2 hL) (fun q => hnx _ _ _ (h.2 q) H locs ls hP hD hS2 hL)
      case ge => exact lv_if_ge hx hb hdg ht (fun q => hto _ _ _ _ (h.1 q) H locs ls hP hD hS2 hL) (fun q => hnx _ _ _ (h.2 q) H locs ls hP hD hS2 hL)
      case gt => exact lv_if_gt hx hb hdg ht (fun q => hto _ _ _ _ (h.1 q) H locs ls hP hD hS2 hL) (fun q => hnx _ _ _ (h.2 q) H locs ls hP hD hS2 hL)
      case le => exact lv_if_le hx hb hdg ht (fun q => hto _ _ _ _ (h.1 q) H locs ls hP hD hS2 hL) (fun q => hnx _ _ _ (h.2 q) H locs ls hP hD hS2 hL)
    next => exact h.elim
  case if_icmp cnd off =>
    simp only [xlok, Bool.and_eq_true, decide_eq_true_eq] at hlen
    have hl : len = 3 := Nat.eq_of_beq_eq_true hlen.1
    subst hl
    have ht : (pc : Int) + off = ((((pc : Int) + off).toNat : Nat) : Int) := (Int.toNat_of_nonneg hlen.2).symm
    simp only [xstep] at h
    split at h
    next y x r =>
      have h := xcmp_of h
      intro H locs ls hP hD hS2 hL
      cases cnd
      case eq => exact lv_icmp_eq hx hb hdg ht (fun q => hto _ _ _ _ (h.1 q) H locs ls hP hD hS2 hL) (fun q => hnx _ _ _ (h.2 q) H locs ls hP hD hS2 hL)
      case ne => exact lv_icmp_ne hx hb hdg ht (fun q => hto _ _ _ _ (h.1 q) H locs ls hP hD hS2 hL) (fun q => hnx _ _ _ (h.2 q) H locs ls hP hD hS2 hL)
      case lt => exact lv_icmp_lt hx hb hdg ht (fun q => hto _ _ _ _ (h.1 q) H locs ls hP hD hS2 hL) (fun q => hnx _ _ _ (h.2 q) H locs ls hP hD hS2 hL)
      case ge => exact lv_icmp_ge hx hb hdg ht (fun q => hto _ _ _ _ (h.1 q) H locs ls hP hD hS2 hL) (fun q => hnx _ _ _ (h.2 q) H locs ls hP hD hS2 hL)
      case gt => exact lv_icmp_gt hx hb hdg ht (fun q => hto _ _ _ _ (h.1 q) H locs ls hP hD hS2 hL) (fun q => hnx _ _ _ (h.2 q) H locs ls hP hD hS2 hL)
      case le => exact lv_icmp_le hx hb hdg ht (fun q => hto _ _ _ _ (h.1 q) H locs ls hP hD hS2 hL) (fun q => hnx _ _ _ (h.2 q) H locs ls hP hD hS2 hL)
    next => exact h.elim
  case goto off =>
    have hl : len = 3 := Nat.eq_of_beq_eq_true hlen
    subst hl
    simp only [xstep] at h
    intro H locs ls hP hD hS2 hL
    have h0 := hto _ _ _ _ h H locs ls hP hD hS2 hL
    by_cases hn : 0 ≤ (pc : Int) + off
    · exact lv_goto hx hb hdg (Int.toNat_of_nonneg hn).symm h0
    · exfalso
      unfold xto at h
      obtain ⟨j1, j2⟩ := xsf.jmp (t := (pc : Int) + off) code hcode
      split at h
      next hj =>
        have hd : ¬ ((((pc : Int) + off).toNat : Nat) : Int) = (pc : Int) + off := by omega
        simp only [hd, decide_false, cond_false] at h
      next i cs2 hj =>
        have h3 := j2 i cs2 hj
        omega
  case getfield ix =>
    have hl : len = 3 := Nat.eq_of_beq_eq_true hlen
    subst hl
    simp only [xstep] at h
    split at h
    next k r =>
      split at h
      next ci j tg hf =>
        split at h
        next ci2 fs hG =>
          cases hb2 : Nat.beq ci2 ci with
          | false => rw [hb2] at h; exact h.elim
          | true =>
            rw [hb2] at h
            have e : ci2 = ci := Nat.eq_of_beq_eq_true hb2
            subst e
            simp only [cond_true] at h
            split at h
            next v hv =>
              obtain ⟨C, T, N, ty0, hc, hk, hin, hty, hnm, hcls, hlink, -⟩ := hft _ (xfind_mem _ _ _ hf)
              intro H locs ls hP hD hS2 hL
              have he : (xw ad kI kJ kQ G)[k]? = some (ad k, .inr (ci2, fs.map (xv ad))) := xw_at (by rw [← xnth_eq]; exact hG)
              have hv' : (fs.map (xv ad))[j]? = some (xv ad v) := by rw [List.getElem?_map, ← xnth_eq, hv]; rfl
              rcases hlink with hl | ⟨host, hl⟩
              · exact va_get (D := (dC, dI)) (cl := vwCl) hx hb hts hin hown hKK hP k he hc j hk (hts _ hl) (fun x h9 => by rw [hcls] at h9; exact h9) hv' hdg (hnx _ _ _ h H locs ls hP hD hS2 hL)
              · exact va_getN (D := (dC, dI)) (cl := vwCl) hx hb hts hin hown hKK hP k he hc j hk (va_Nw.use rfl (hN _ hl rfl)) (fun x h9 => by rw [hcls] at h9; exact h9) hv' hdg (hnx _ _ _ h H locs ls hP hD hS2 hL)
            next => exact h.elim
        next => exact h.elim
      next => exact h.elim
    next => exact h.elim
  case putfield ix =>
    have hl : len = 3 := Nat.eq_of_beq_eq_true hlen
    subst hl
    simp only [xstep] at h
    split at h
    next x k r =>
      split at h
      next ci j hf =>
        split at h
        next ci2 fs hG =>
          cases hb2 : Nat.beq ci2 ci with
          | false => rw [hb2] at h; exact h.elim
          | true =>
            rw [hb2] at h
            have e : ci2 = ci := Nat.eq_of_beq_eq_true hb2
            subst e
            simp only [cond_true] at h
            obtain ⟨h1, h2⟩ := xset_ok _ _ _ _ h
            obtain ⟨h3, h4⟩ := xset_ok _ _ _ _ h2
            obtain ⟨C, T, N, ty0, hc, hk, hin, hty, hnm, hcls, -, hw, -, hlk⟩ := hft _ (xfind_mem _ _ _ hf)
            obtain ⟨hw1, hw2⟩ := hw rfl
            have hl := hlk (by simp)
            intro H locs ls hP hD hS2 hL
            have he : (xw ad kI kJ kQ G)[k]? = some (ad k, .inr (ci2, fs.map (xv ad))) := xw_at (by rw [← xnth_eq]; exact hG)
            refine va_put (D := (dC, dI)) (cl := vwCl) (v := .int x) (ty := .int) hx hb hts hin ty0 hty hnm hown hKK hP hD hS2 k he hc j hk (hts _ hl) (fun x h9 => by rw [hcls] at h9; exact h9) hw1 (by rw [hty _ hk]; exact congrArg some hw2) rfl rfl (by simpa using h1) hdg (fun H1 locs1 hP1 hD1 hS1 => ?_)
            have ee : (xw ad kI kJ kQ G).set k (ad k, .inr (ci2, (fs.map (xv ad)).set j (.int x))) = xw ad kI kJ kQ (G.set k (.inr (ci2, fs.set j (.int x)))) := by
              rw [← xw_set]
              show _ = (xw ad kI kJ kQ G).set k (ad k, .inr (ci2, (fs.set j (.int x)).map (xv ad)))
              rw [List.map_set]; rfl
            rw [ee] at hP1 hD1
            exact hnx _ _ _ h4 H1 locs1 ls hP1 hD1 hS1 hL
        next => exact h.elim
      next => exact h.elim
    next x k r =>
      split at h
      next ci j hf =>
        split at h
        next ci2 fs hG =>
          cases hb2 : Nat.beq ci2 ci with
          | false => rw [hb2] at h; exact h.elim
          | true =>
            rw [hb2] at h
            have e : ci2 = ci := Nat.eq_of_beq_eq_true hb2
            subst e
            simp only [cond_true] at h
            obtain ⟨h1, h2⟩ := xset_ok _ _ _ _ h
            obtain ⟨h3, h4⟩ := xset_ok _ _ _ _ h2
            obtain ⟨C, T, N, ty0, hc, hk, hin, hty, hnm, hcls, -, -, hw, hlk⟩ := hft _ (xfind_mem _ _ _ hf)
            obtain ⟨hw1, hw2⟩ := hw rfl
            have hl := hlk (by simp)
            intro H locs ls hP hD hS2 hL
            have he : (xw ad kI kJ kQ G)[k]? = some (ad k, .inr (ci2, fs.map (xv ad))) := xw_at (by rw [← xnth_eq]; exact hG)
            refine va_put (D := (dC, dI)) (cl := vwCl) (v := .long x) (ty := .long) hx hb hts hin ty0 hty hnm hown hKK hP hD hS2 k he hc j hk (hts _ hl) (fun x h9 => by rw [hcls] at h9; exact h9) hw1 (by rw [hty _ hk]; exact congrArg some hw2) rfl rfl (by simpa using h1) hdg (fun H1 locs1 hP1 hD1 hS1 => ?_)
            have ee : (xw ad kI kJ kQ G).set k (ad k, .inr (ci2, (fs.map (xv ad)).set j (.long x))) = xw ad kI kJ kQ (G.set k (.inr (ci2, fs.set j (.long x)))) := by
              rw [← xw_set]
              show _ = (xw ad kI kJ kQ G).set k (ad k, .inr (ci2, (fs.set j (.long x)).map (xv ad)))
              rw [List.map_set]; rfl
            rw [ee] at hP1 hD1
            exact hnx _ _ _ h4 H1 locs1 ls hP1 hD1 hS1 hL
        next => exact h.elim
      next => exact h.elim
    next => exact h.elim
  case iaload =>
    have hl : len = 1 := Nat.eq_of_beq_eq_true hlen
    subst hl
    simp only [xstep] at h
    split at h
    next i k r =>
      split at h
      next n f hG =>
        cases hi : xin i n with
        | false => rw [hi] at h; exact h.elim
        | true =>
          rw [hi] at h
          intro H locs ls hP hD hS2 hL
          have he : (xw ad kI kJ kQ G)[k]? = some (ad k, .inl (kI, n, .inl f)) := xw_at (by rw [← xnth_eq]; exact hG)
          exact va_iald (D := (dC, dI)) (cl := vwCl) hx hb hKK hP k 0 he rfl (xin_ok hi) hdg (hnx _ _ _ h H locs ls hP hD hS2 hL)
      next => exact h.elim
    next => exact h.elim
  case laload =>
    have hl : len = 1 := Nat.eq_of_beq_eq_true hlen
    subst hl
    simp only [xstep] at h
    split at h
    next i k r =>
      split at h
      next n f hG =>
        cases hi : xin i n with
        | false => rw [hi] at h; exact h.elim
        | true =>
          rw [hi] at h
          intro H locs ls hP hD hS2 hL
          have he : (xw ad kI kJ kQ G)[k]? = some (ad k, .inl (kJ, n, .inr (.inl f))) := xw_at (by rw [← xnth_eq]; exact hG)
          exact va_lald (D := (dC, dI)) (cl := vwCl) hx hb hKK hP k 1 he rfl (xin_ok hi) hdg (hnx _ _ _ h H locs ls hP hD hS2 hL)
      next => exact h.elim
    next => exact h.elim
  case aaload =>
    have hl : len = 1 := Nat.eq_of_beq_eq_true hlen
    subst hl
    simp only [xstep] at h
    split at h
    next i k r =>
      split at h
      next n f hG =>
        cases hi : xin i n with
        | false => rw [hi] at h; exact h.elim
        | true =>
          rw [hi] at h
          simp only [cond_true] at h
          split at h
          next q hq =>
            intro H locs ls hP hD hS2 hL
            have he : (xw ad kI kJ kQ G)[k]? = some (ad k, .inl (kQ, n, .inr (.inr (.inr (.inr (xq ad f)))))) := xw_at (by rw [← xnth_eq]; exact hG)
            have hin := xin_ok hi
            have hlt : i.toNatClampNeg < n := Nat.not_le.mp fun q => hin (Or.inr q)
            have hv : va_rf (xq ad f i.toNatClampNeg) = .ref (ad q) := by simp [xq, hq, va_rf]
            have h1 := hnx _ _ _ h H locs ls hP hD hS2 hL
            exact W.aald (v := .ref (ad q)) (ty := .array .long) hx hb (hP k _ he) ((hKK.2 2 _ rfl).1 n (fun j => va_rf (xq ad f j))) rfl (fun q => by cases q) (by show ¬ (i < 0 ∨ (arrV _ _ _).slots.size ≤ _); rw [arrV_size]; exact hin) (by show (arrV _ _ _).slots[_]? = _; rw [arrV_read _ _ hlt, hv]) rfl rfl hdg h1
          next => exact h.elim
      next => exact h.elim
    next => exact h.elim
  case iastore =>
    have hl : len = 1 := Nat.eq_of_beq_eq_true hlen
    subst hl
    simp only [xstep] at h
    split at h
    next x i k r =>
      split at h
      next n f hG =>
        cases hi : xin i n with
        | false => rw [hi] at h; exact h.elim
        | true =>
          rw [hi] at h
          obtain ⟨h3, h4⟩ := xset_ok _ _ _ _ h
          intro H locs ls hP hD hS2 hL
          have he : (xw ad kI kJ kQ G)[k]? = some (ad k, .inl (kI, n, .inl f)) := xw_at (by rw [← xnth_eq]; exact hG)
          refine va_iast (D := (dC, dI)) (cl := vwCl) hx hb hKK hP hD hS2 k 0 he rfl (xin_ok hi) hdg (fun H1 locs1 hP1 hD1 hS1 => ?_)
          have ee : (xw ad kI kJ kQ G).set k (ad k, .inl (kI, n, .inl (upd f i.toNatClampNeg x))) = xw ad kI kJ kQ (G.set k (.inl (n, .inl (upd f i.toNatClampNeg x)))) := xw_set (e := .inl (n, .inl (upd f i.toNatClampNeg x)))
          rw [ee] at hP1 hD1
          exact hnx _ _ _ h4 H1 locs1 ls hP1 hD1 hS1 hL
      next => exact h.elim
    next => exact h.elim
  case lastore =>
    have hl : len = 1 := Nat.eq_of_beq_eq_true hlen
    subst hl
    simp only [xstep] at h
    split at h
    next x i k r =>
      split at h
      next n f hG =>
        cases hi : xin i n with
        | false => rw [hi] at h; exact h.elim
        | true =>
          rw [hi] at h
          obtain ⟨h3, h4⟩ := xset_ok _ _ _ _ h
          intro H locs ls hP hD hS2 hL
          have he : (xw ad kI kJ kQ G)[k]? = some (ad k, .inl (kJ, n, .inr (.inl f))) := xw_at (by rw [← xnth_eq]; exact hG)
          refine va_last (D := (dC, dI)) (cl := vwCl) hx hb hKK hP hD hS2 k 1 he rfl (xin_ok hi) hdg (fun H1 locs1 hP1 hD1 hS1 => ?_)
          have ee : (xw ad kI kJ kQ G).set k (ad k, .inl (kJ, n, .inr (.inl (vp_updL f i.toNatClampNeg x)))) = xw ad kI kJ kQ (G.set k (.inl (n, .inr (.inl (vp_updL f i.toNatClampNeg x))))) := xw_set (e := .inl (n, .inr (.inl (vp_updL f i.toNatClampNeg x))))
          rw [ee] at hP1 hD1
          exact hnx _ _ _ h4 H1 locs1 ls hP1 hD1 hS1 hL
      next => exact h.elim
    next => exact h.elim
  case arraylength =>
    have hl : len = 1 := Nat.eq_of_beq_eq_true hlen
    subst hl
    simp only [xstep] at h
    split at h
    next k r =>
      split at h
      next n f hG =>
        intro H locs ls hP hD hS2 hL
        have he : (xw ad kI kJ kQ G)[k]? = some (ad k, .inl (kI, n, .inl f)) := xw_at (by rw [← xnth_eq]; exact hG)
        exact va_alen (D := (dC, dI)) (cl := vwCl) hx hb hKK hP k 0 he rfl rfl hdg (hnx _ _ _ h H locs ls hP hD hS2 hL)
      next n f hG =>
        intro H locs ls hP hD hS2 hL
        have he : (xw ad kI kJ kQ G)[k]? = some (ad k, .inl (kJ, n, .inr (.inl f))) := xw_at (by rw [← xnth_eq]; exact hG)
        exact va_alen (D := (dC, dI)) (cl := vwCl) hx hb hKK hP k 1 he rfl rfl hdg (hnx _ _ _ h H locs ls hP hD hS2 hL)
      next => exact h.elim
    next => exact h.elim
  case invokevirtual ix =>
    have hl : len = 3 := Nat.eq_of_beq_eq_true hlen
    subst hl
    simp only [xstep] at h
    split at h
    next q hq => exact hoc _ (xfind_mem _ _ _ hq) pc lv st G _ (Or.inl hdg) (fun st G hk => hnx _ _ _ hk) h
    next => exact hK _ _ _ _ h
  case invokestatic ix =>
    have hl : len = 3 := Nat.eq_of_beq_eq_true hlen
    subst hl
    simp only [xstep] at h
    split at h
    next q hq => exact hoc _ (xfind_mem _ _ _ hq) pc lv st G _ (Or.inr hdg) (fun st G hk => hnx _ _ _ hk) h
    next => exact hK _ _ _ _ h
  case ireturn =>
    have hl : len = 1 := Nat.eq_of_beq_eq_true hlen
    subst hl
    simp only [xstep] at h
    split at h
    next x =>
      cases hi : xnar ret x with
      | false => rw [hi] at h; exact h.elim
      | true =>
        rw [hi] at h
        exact hI _ _ _ _ hdg hi h
    next => exact h.elim
  case lreturn =>
    have hl : len = 1 := Nat.eq_of_beq_eq_true hlen
    subst hl
    simp only [xstep] at h
    split at h
    next x =>
      split at h
      next => exact hJ _ _ _ _ hdg rfl h
      next => exact h.elim
    next => exact h.elim
  case return_ =>
    have hl : len = 1 := Nat.eq_of_beq_eq_true hlen
    subst hl
    simp only [xstep] at h
    split at h
    next =>
      split at h
      next => exact hV _ _ _ hdg rfl h
      next => exact h.elim
    next => exact h.elim
  all_goals exact hK _ _ _ _ h
/-- a stretch is sound -/
theorem xex_ok {code : List xI} {ft : List xF} {ct : List (Nat × Int64)} {oc : List (Nat × xH)} {ret : Option FieldType} {post : Option Value → List xE → Prop} {bp : List Nat}
    (hS : xS p s m args c dC dI kI kJ kQ own cc nL) (hft : ∀ q ∈ ft, xFok own q) (hct : ∀ q ∈ ct, Cond.constantLong own q.1 q.2 ∈ xT) (hoc : ∀ q ∈ oc, xHk p l e R s m args below meth c Q dC dI ad kI kJ kQ A H0 nL cells slots cc q)
    (hcode : xsf cc code)
    (hI : ∀ pc lv x G, decode cc pc = .ok (.ireturn, 1) → xnar ret x = true → post (some (.int x)) G → xW p l e R s m args below meth c Q dC dI ad kI kJ kQ A H0 nL cells slots pc lv [.int x] G)
    (hJ : ∀ pc lv x G, decode cc pc = .ok (.lreturn, 1) → ret = some .long → post (some (.long x)) G → xW p l e R s m args below meth c Q dC dI ad kI kJ kQ A H0 nL cells slots pc lv [.long x] G)
    (hV : ∀ pc lv G, decode cc pc = .ok (.return_, 1) → ret = none → post none G → xW p l e R s m args below meth c Q dC dI ad kI kJ kQ A H0 nL cells slots pc lv [] G) :
    ∀ (n : Nat) (fr : Bool) (cs : List xI) (lv : List (Option Value)) (st : List Value) (G : List xE), xsf cc cs →
      xex code ft ct oc ret post (xW p l e R s m args below meth c Q dC dI ad kI kJ kQ A H0 nL cells slots) bp n fr cs lv st G → xWs p l e R s m args below meth c Q dC dI ad kI kJ kQ A H0 nL cells slots cs lv st G
  | n, fr, [], lv, st, G, _, h => by cases n <;> exact h.elim
  | 0, fr, i :: cs, lv, st, G, _, h => ⟨i, cs, rfl, h⟩
  | n + 1, fr, (pc, ins, len) :: cs, lv, st, G, hcs, h => by
    refine ⟨_, _, rfl, ?_⟩
    unfold xex at h
    cases hb : (fr && bp.any (fun b => Nat.beq b pc)) with
    | true => rw [hb] at h; exact h
    | false =>
      rw [hb] at h
      exact xstep_ok hS hft hct hoc hcode hcs (fun cs lv st G h1 h2 => xex_ok hS hft hct hoc hcode hI hJ hV n true cs lv st G h1 h2) (fun _ _ _ _ h => h) hI hJ hV h
end XSND
end
section
/-! contracts over places, calls, entries -/
def xren (rho : Nat → Nat) (e : xE) : xE := match e with
  | .inl (n, .inl f) => .inl (n, .inl f)
  | .inl (n, .inr (.inl f)) => .inl (n, .inr (.inl f))
  | .inl (n, .inr (.inr (.inl f))) => .inl (n, .inr (.inr (.inl f)))
  | .inl (n, .inr (.inr (.inr (.inl f)))) => .inl (n, .inr (.inr (.inr (.inl f))))
  | .inl (n, .inr (.inr (.inr (.inr f)))) => .inl (n, .inr (.inr (.inr (.inr (xq rho f)))))
  | .inr (ci, fs) => .inr (ci, fs.map (xv rho))
def xrho (is : List Nat) (j : Nat) : Nat := match xnth is j with
  | some i => i
  | none => 0
theorem xrho_of {is : List Nat} {j i : Nat} (h : is[j]? = some i) : xrho is j = i := by
  unfold xrho
  rw [xnth_eq, h]
theorem xv_comp (ad rho : Nat → Nat) (v : Value) : xv (fun j => ad (rho j)) v = xv ad (xv rho v) := by cases v <;> rfl
theorem xe_comp (ad rho : Nat → Nat) (kI kJ kQ : ClassId) (e : xE) : xe (fun j => ad (rho j)) kI kJ kQ e = xe ad kI kJ kQ (xren rho e) := by
  obtain ⟨n, f | f | f | f | f⟩ | ⟨ci, fs⟩ := e
  · rfl
  · rfl
  · rfl
  · rfl
  · show (Sum.inl (kQ, n, Sum.inr (Sum.inr (Sum.inr (Sum.inr (xq (fun j => ad (rho j)) f))))) : va_E) = Sum.inl (kQ, n, Sum.inr (Sum.inr (Sum.inr (Sum.inr (xq ad (xq rho f))))))
    have : xq (fun j => ad (rho j)) f = xq ad (xq rho f) := by
      funext i
      unfold xq
      cases f i <;> rfl
    rw [this]
  · show (Sum.inr (ci, fs.map (xv (fun j => ad (rho j)))) : va_E) = Sum.inr (ci, (fs.map (xv rho)).map (xv ad))
    rw [List.map_map]
    congr 3
    funext v
    exact xv_comp ad rho v
/-- the callee's cells among the caller's -/
def xselP (rho : Nat → Nat) (G : List xE) : List Nat → List xE → Prop
  | _, [] => True
  | [], _ :: _ => False
  | i :: is, e :: Gc => xnth G i = some (xren rho e) ∧ xselP rho G is Gc
theorem xselP_at {rho : Nat → Nat} {G : List xE} : ∀ {is : List Nat} {Gc : List xE}, xselP rho G is Gc → ∀ (j : Nat) (e : xE), Gc[j]? = some e → ∃ i, is[j]? = some i ∧ G[i]? = some (xren rho e)
  | _, [], _, j, e, h => by simp at h
  | [], _ :: _, hs, _, _, _ => hs.elim
  | i :: is, e0 :: Gc, hs, 0, e, h => by
    simp at h
    subst h
    exact ⟨i, rfl, by rw [← xnth_eq]; exact hs.1⟩
  | i :: is, e0 :: Gc, hs, j + 1, e, h => by
    simp at h
    obtain ⟨i2, h1, h2⟩ := xselP_at hs.2 j e h
    exact ⟨i2, by simpa using h1, h2⟩
/-- the callee's cells put back -/
def xputK (rho : Nat → Nat) : List Nat → List xE → List xE → (List xE → Prop) → Prop
  | _, [], G, K => K G
  | [], _ :: _, _, _ => False
  | i :: is, e :: G1, G, K => xset (xren rho e) G i (fun G' => xputK rho is G1 G' K)
theorem xputK_ok {rho : Nat → Nat} : ∀ (is : List Nat) (G1 G : List xE) (K : List xE → Prop), xputK rho is G1 G K → ∃ G', K G' ∧ G'.length = G.length ∧ ∀ (k : Nat) (e : xE), G'[k]? = some e → (∃ (j : Nat) (e1 : xE), is[j]? = some k ∧ G1[j]? = some e1 ∧ e = xren rho e1) ∨ (G[k]? = some e ∧ ∀ j : Nat, j < G1.length → is[j]? ≠ some k)
  | is, [], G, K, h => ⟨G, by cases is <;> exact h, rfl, fun k e hk => Or.inr ⟨hk, fun j hj => by simp at hj⟩⟩
  | [], _ :: _, _, _, h => h.elim
  | i :: is, e0 :: G1, G, K, h => by
    obtain ⟨h1, h2⟩ := xset_ok _ _ _ _ h
    obtain ⟨G', h3, h4, h5⟩ := xputK_ok is G1 _ K h2
    refine ⟨G', h3, by simpa using h4, fun k e hk => ?_⟩
    rcases h5 k e hk with ⟨j, e1, q1, q2, q3⟩ | ⟨q1, q2⟩
    · exact Or.inl ⟨j + 1, e1, by simpa using q1, by simpa using q2, q3⟩
    · by_cases hki : i = k
      · subst hki
        rw [List.getElem?_set_self h1] at q1
        exact Or.inl ⟨0, e0, rfl, rfl, (Option.some.inj q1).symm⟩
      · rw [List.getElem?_set_ne hki] at q1
        refine Or.inr ⟨q1, fun j hj => ?_⟩
        cases j with
        | zero => simpa using hki
        | succ j => simpa using q2 j (by simpa using hj)
theorem xw_D {ad : Nat → Nat} {kI kJ kQ : ClassId} {A : Nat → Prop} {G G1 : List xE} (h : va_D A (xw ad kI kJ kQ G)) (hl : G1.length = G.length) : va_D A (xw ad kI kJ kQ G1) := by
  have key : ∀ (k : Nat) (q : Nat × va_E), (xw ad kI kJ kQ G1)[k]? = some q → ∃ q2, (xw ad kI kJ kQ G)[k]? = some q2 ∧ q2.1 = q.1 := by
    intro k q hk
    have h1 : k < G.length := by
      have := (List.getElem?_eq_some_iff.mp hk).1
      rw [xw_len] at this
      omega
    rw [xw_get] at hk
    obtain ⟨e, -, he⟩ := Option.map_eq_some_iff.mp hk
    refine ⟨_, xw_at (List.getElem?_eq_getElem h1), ?_⟩
    rw [← he]
  refine ⟨fun i j x y hi hj hxy => ?_, fun k q hk => ?_⟩
  · obtain ⟨x2, a1, a2⟩ := key i x hi
    obtain ⟨y2, b1, b2⟩ := key j y hj
    exact h.1 i j x2 y2 a1 b1 (by rw [a2, b2]; exact hxy)
  · obtain ⟨q2, a1, a2⟩ := key k q hk
    rw [← a2]
    exact h.2 k q2 a1
def xQ (dC : Nat → ClassId) (dI : Nat → Nat → Nat) (ad : Nat → Nat) (kI kJ kQ : ClassId) (G : List xE) (sz : Nat) (post : Option Value → List xE → Prop) : Array Value → State → Outcome → State → Prop := fun _ st oc t =>
  (∃ (r : Option Value) (G1 : List xE), oc = .returned (r.map (xv ad)) ∧ post r G1 ∧ va_P (dC, dI) vwCl (xw ad kI kJ kQ G1) t.heap) ∧ va_F (va_A (xw ad kI kJ kQ G) sz) st t
/-- a method's contract: with these arguments, from these cells, it returns, and 'post answer cells' -/
def xM (l : Launch) (y : MethodName) (cc : ByteArray) (maxL : Nat) (ret : Option FieldType) (rm : Room) (as : List Value) (G : List xE) (post : Option Value → List xE → Prop) : Prop :=
  ∀ (dC : Nat → ClassId) (dI : Nat → Nat → Nat) (ad : Nat → Nat) (kI kJ kQ : ClassId) (sz : Nat), Met l y (Cond.code y cc maxL ret :: xT) rm
    (va_Pc (as.map (xv ad)) (fun U => U.heap.size = sz ∧ va_P (dC, dI) vwCl (xw ad kI kJ kQ G) U.heap ∧ va_K (dC, dI) vwCl (xty kI kJ kQ) U ∧ va_D (fun _ => True) (xw ad kI kJ kQ G) ∧ xN U))
    (xQ dC dI ad kI kJ kQ G sz post) 0 0 (va_A (xw ad kI kJ kQ G) sz)
/-- what a method's walk may use: X is the machine's predicate -/
def xR (l : Launch) (own : String) (cc : ByteArray) (R : Room) (ret : Option FieldType) (post : Option Value → List xE → Prop) (nL : Nat) (X : Nat → List (Option Value) → List Value → List xE → Prop) : Prop :=
  ∃ (p : Program) (e : Env) (s : State) (m : MethodId) (args : Array Value) (below : List Frame) (meth : Method) (c : Code) (Q : State → Prop) (dC : Nat → ClassId) (dI : Nat → Nat → Nat) (ad : Nat → Nat) (kI kJ kQ : ClassId) (A : Nat → Prop) (H0 : Heap) (cells slots : Nat),
    X = xW p l e R s m args below meth c Q dC dI ad kI kJ kQ A H0 nL cells slots ∧ xS p s m args c dC dI kI kJ kQ own cc nL ∧ (∀ q, H0.size ≤ q → A q) ∧ (cells ≤ R.cells ∧ slots ≤ R.slots) ∧
    (∀ pc lv x G, decode cc pc = .ok (.ireturn, 1) → xnar ret x = true → post (some (.int x)) G → X pc lv [.int x] G) ∧
    (∀ pc lv x G, decode cc pc = .ok (.lreturn, 1) → ret = some .long → post (some (.long x)) G → X pc lv [.long x] G) ∧
    (∀ pc lv G, decode cc pc = .ok (.return_, 1) → ret = none → post none G → X pc lv [] G)
/-- a known call, of the walk's predicate -/
def xHq (cc : ByteArray) (X : Nat → List (Option Value) → List Value → List xE → Prop) (q : Nat × xH) : Prop :=
  ∀ (pc : Nat) (lv : List (Option Value)) (st : List Value) (G : List xE) (K : List Value → List xE → Prop), (decode cc pc = .ok (.invokevirtual q.1, 3) ∨ decode cc pc = .ok (.invokestatic q.1, 3)) → (∀ st G, K st G → X (pc + 3) lv st G) → q.2 st G K → X pc lv st G
theorem xR.run {l : Launch} {own : String} {cc : ByteArray} {R : Room} {ret : Option FieldType} {post : Option Value → List xE → Prop} {nL : Nat} {X : Nat → List (Option Value) → List Value → List xE → Prop} (h : xR l own cc R ret post nL X)
    {code : List xI} {ft : List xF} {ct : List (Nat × Int64)} {oc : List (Nat × xH)} (hcode : xsf cc code) (hft : ∀ q ∈ ft, xFok own q) (hct : ∀ q ∈ ct, Cond.constantLong own q.1 q.2 ∈ xT) (hoc : ∀ q ∈ oc, xHq cc X q) (bp : List Nat) (n : Nat) {pc : Nat} {lv : List (Option Value)} {st : List Value} {G : List xE}
    (hx : xex code ft ct oc ret post X bp n false (xjmp code (pc : Int)) lv st G) : X pc lv st G := by
  obtain ⟨p, e, s, m, args, below, meth, c, Q, dC, dI, ad, kI, kJ, kQ, A, H0, cells, slots, rfl, hS, -, -, hI, hJ, hV⟩ := h
  obtain ⟨j1, j2⟩ := xsf.jmp (t := (pc : Int)) code hcode
  obtain ⟨i, r, h1, h2⟩ := xex_ok hS hft hct hoc hcode hI hJ hV n false _ lv st G j1 hx
  have h3 := j2 i r h1
  rw [show pc = i.1 by omega]
  exact h2
theorem xgood {y : MethodName} {cc : ByteArray} {maxL : Nat} {ret : Option FieldType} (h : Cond.code y cc maxL ret ∈ xT) : GoodIn xT (Cond.code y cc maxL ret :: xT) := by
  have hg : ∀ w ∈ xT, w ∈ xT ∧ ((w.onTables && w.keeps) = true ∨ ∃ ty, w = .arrayClass ty) := fun w hw => ⟨hw, good_of_word (List.mem_filter.mp hw).2⟩
  intro w hw
  rcases List.mem_cons.mp hw with rfl | hw
  · exact hg _ h
  · exact hg w hw
/-- what the tables say of a method that is called; n: its parameters -/
def xY (y : MethodName) (cb : ByteArray) (maxL : Nat) (ret : Option FieldType) (n : Nat) : Prop := Cond.code y cb maxL ret ∈ xT ∧ Cond.initialized y.cls ∈ xT ∧ y.cls ≠ "java/lang/invoke/MethodHandle" ∧ y.cls ≠ "java/lang/invoke/VarHandle" ∧ (parseMethodDescriptor y.desc).map (fun d => d.parameters.length) = some n
section XCALL
variable {p : Program} {l : Launch} {e : Env} {R : Room} {s : State} {m : MethodId} {args : Array Value} {below : List Frame} {meth : Method} {c : Code} {Q : State → Prop} {dC : Nat → ClassId} {dI : Nat → Nat → Nat} {ad : Nat → Nat} {kI kJ kQ : ClassId} {A : Nat → Prop} {H0 : Heap} {nL cells slots : Nat} {own : String} {cc : ByteArray}
theorem xW_call {Gc G : List xE} {is : List Nat} {rest : List Value} {post2 : Option Value → List xE → Prop} {pc : Nat} {lv : List (Option Value)} {st : List Value} {av : Array Value} (hA : ∀ q, H0.size ≤ q → A q) (hsel : xselP (xrho is) G is Gc) (hlen : ∀ r G1, post2 r G1 → G1.length = Gc.length)
    (hrun : ∀ (H : Heap) (locs : List Loc) (ls : Array Slot), va_P (dC, dI) vwCl (xw ad kI kJ kQ G) H → va_D A (xw ad kI kJ kQ G) → va_S A H0 H locs → xL ad nL lv ls → va_P (dC, dI) vwCl (xw (fun j => ad (xrho is j)) kI kJ kQ Gc) H → va_D (fun _ => True) (xw (fun j => ad (xrho is j)) kI kJ kQ Gc) → va_Run p l e R s m args below meth c H locs cells slots 0 0 (F0 m pc ls (st.map (xv ad))) (rest.map (xv ad)) (xQ dC dI (fun j => ad (xrho is j)) kI kJ kQ Gc H.size post2 av) (va_A (xw (fun j => ad (xrho is j)) kI kJ kQ Gc) H.size))
    (hnd : va_nd (is.take Gc.length) = true)
    (kk : ∀ r G1, post2 r G1 → xputK (xrho is) is G1 G (fun G' => xW p l e R s m args below meth c Q dC dI ad kI kJ kQ A H0 nL cells slots (pc + 3) lv ((r.map (xv (xrho is))).toList ++ rest) G')) : xW p l e R s m args below meth c Q dC dI ad kI kJ kQ A H0 nL cells slots pc lv st G := by
  intro H locs ls hP hD hS hL
  have hat : ∀ (j : Nat) (q : Nat × va_E), (xw (fun j => ad (xrho is j)) kI kJ kQ Gc)[j]? = some q → ∃ i, is[j]? = some i ∧ j < Gc.length ∧ (xw ad kI kJ kQ G)[i]? = some q := by
    intro j q hq
    have hjl : j < Gc.length := by have := (List.getElem?_eq_some_iff.mp hq).1; rw [xw_len] at this; exact this
    rw [xw_get] at hq
    obtain ⟨e0, h1, h2⟩ := Option.map_eq_some_iff.mp hq
    obtain ⟨i, h3, h4⟩ := xselP_at hsel j e0 h1
    refine ⟨i, h3, hjl, ?_⟩
    rw [xw_at h4, ← h2]
    show some (ad i, xe ad kI kJ kQ (xren (xrho is) e0)) = some (ad (xrho is j), xe (fun j => ad (xrho is j)) kI kJ kQ e0)
    rw [xrho_of h3, xe_comp ad (xrho is)]
  have hPc : va_P (dC, dI) vwCl (xw (fun j => ad (xrho is j)) kI kJ kQ Gc) H := fun j q hq => by
    obtain ⟨i, -, -, h⟩ := hat j q hq
    exact hP i q h
  have hDc : va_D A (xw (fun j => ad (xrho is j)) kI kJ kQ Gc) := by
    refine ⟨fun i j x y hi hj hxy => ?_, fun k q hk => ?_⟩
    · obtain ⟨i2, a1, a2, a3⟩ := hat i x hi
      obtain ⟨j2, b1, b2, b3⟩ := hat j y hj
      have := hD.1 i2 j2 x y a3 b3 hxy
      subst this
      exact va_nd_inj _ hnd i j i2 (by rw [List.getElem?_take_of_lt a2]; exact a1) (by rw [List.getElem?_take_of_lt b2]; exact b1)
    · obtain ⟨i, -, -, h⟩ := hat k q hk
      exact hD.2 i q h
  have hr := hrun H locs ls hP hD hS hL hPc (hDc.weaken (fun _ _ _ _ => trivial))
  intro T hT X
  obtain ⟨v, st₀, t, T', L, h0, X', hL1, e1, e2, ⟨⟨r, G1, hv, hp, hP1⟩, hz, hk⟩, stp⟩ := hr T hT X
  rw [h0] at hz hk
  obtain ⟨G', k1, k2, k3⟩ := xputK_ok _ _ _ _ (kk r G1 hp)
  have hl1 := hlen r G1 hp
  have hfree : ∀ q, va_A (xw (fun j => ad (xrho is j)) kI kJ kQ Gc) H.size q → A q := by
    rintro q (⟨j, e0, h⟩ | h)
    · exact hDc.2 j (q, e0) h
    · exact hA q (Nat.le_trans hS.1 h)
  have hP' : va_P (dC, dI) vwCl (xw ad kI kJ kQ G') T'.heap := by
    intro k q hq
    have hq0 := hq
    rw [xw_get] at hq
    obtain ⟨e0, h1, h2⟩ := Option.map_eq_some_iff.mp hq
    rcases k3 k e0 h1 with ⟨j, e9, q1, q2, q3⟩ | ⟨q1, q2⟩
    · have h5 := hP1 j (ad (xrho is j), xe (fun j => ad (xrho is j)) kI kJ kQ e9) (xw_at q2)
      rw [xe_comp ad (xrho is), ← q3, xrho_of q1, h2] at h5
      rw [e1]
      exact h5
    · have h5 := hP k q (by rw [xw_at q1, ← h2])
      refine h5.kept ?_
      rw [e1]
      refine hk q.1 h5.lt ?_
      rintro (⟨j, e9, h⟩ | h)
      · obtain ⟨i, a1, a2, a3⟩ := hat j _ h
        have hki := hD.1 k i q (q.1, e9) (by rw [xw_at q1, ← h2]) a3 rfl
        subst hki
        exact q2 j (by rw [hl1]; exact a2) a1
      · have := h5.lt
        omega
  have hS' : va_S A H0 T'.heap (locs ++ L) := by
    refine ⟨Nat.le_trans hS.1 (by rw [e1]; exact hz), fun q h1 h2 => ?_, fun q hq => ?_⟩
    · rw [e1, hk q (Nat.lt_of_lt_of_le h1 hS.1) (fun z => h2 (hfree q z))]
      exact hS.2.1 q h1 h2
    · rcases List.mem_append.mp hq with h | h
      · exact hS.2.2 q h
      · exact hfree _ (hL1 q h)
  obtain ⟨t2, a1, b1⟩ := k1 T'.heap (locs ++ L) ls hP' (xw_D hD k2) hS' hL T' rfl X'
  refine ⟨t2, stp t2 ?_, b1⟩
  have hv2 : v = r.map (xv (fun j => ad (xrho is j))) := by cases hv; rfl
  rw [hv2]
  have hst : (r.map (xv (fun j => ad (xrho is j)))).toList ++ rest.map (xv ad) = List.map (xv ad) ((r.map (xv (xrho is))).toList ++ rest) := by
    cases r with
    | none => rfl
    | some w => simp [xv_comp]
  rw [hst]
  exact a1
end XCALL
theorem xblind {av : List Value} {dC : Nat → ClassId} {dI : Nat → Nat → Nat} {ad : Nat → Nat} {kI kJ kQ : ClassId} {sz : Nat} {G : List xE} : FrameBlind (va_Pc av (fun U => U.heap.size = sz ∧ va_P (dC, dI) vwCl (xw ad kI kJ kQ G) U.heap ∧ va_K (dC, dI) vwCl (xty kI kJ kQ) U ∧ va_D (fun _ => True) (xw ad kI kJ kQ G) ∧ xN U)) := by
  intro a U g mk q
  obtain ⟨q0, q1, qP, qK, qD, qN⟩ := q
  exact ⟨q0, q1, qP, va_K.moved (u := U) (U := U.calling g mk a) (Vm.Alike.refl U.vm) qK, qD, xN.same (u := U) (U := U.calling g mk a) rfl qN⟩
theorem xcat_sum (ad : Nat → Nat) (rest : List Value) : ((rest.map (xv ad)).map fun v => v.category).sum = (rest.map fun v => v.category).sum := by
  rw [List.map_map]
  congr 1
  apply List.map_congr_left
  intro v _
  exact xv_cat ad v
theorem xmap_rev (ad rho : Nat → Nat) (as rest : List Value) : ((as.map (xv rho)).reverse ++ rest).map (xv ad) = (as.map (xv (fun j => ad (rho j)))).reverse ++ rest.map (xv ad) := by
  rw [List.map_append, List.map_reverse, List.map_map]
  congr 3
  funext v
  exact (xv_comp ad rho v).symm
section XCALLS
variable {l : Launch} {own : String} {cc : ByteArray} {R : Room} {ret : Option FieldType} {post : Option Value → List xE → Prop} {nL : Nat} {X : Nat → List (Option Value) → List Value → List xE → Prop}
/-- an instance method -/
theorem xR.callV (h : xR l own cc R ret post nL X) {idx : Nat} {y : MethodName} {cb : ByteArray} {maxL n : Nat} {ret2 : Option FieldType} {rm : Room} {j0 : Nat} {as : List Value} {Gc : List xE} {post2 : Option Value → List xE → Prop} (is : List Nat) (rest : List Value) {pc : Nat} {lv : List (Option Value)} {st : List Value} {G : List xE} {ci : Nat} {fs : List Value} {cv : vw_C}
    (hM : xM l y cb maxL ret2 rm (.ref j0 :: as) Gc post2) (hY : xY y cb maxL ret2 n) (hlk : Cond.methodLink own idx y ∈ xT) (hin : Cond.instanceMethod y ∈ xT) (hse : Cond.selects y.cls y y ∈ xT)
    (hR : rm.cells = 0 ∧ rm.slots = 0 ∧ rm.frames + 1 ≤ R.frames ∧ 8 + (maxL + 11) + rm.locals ≤ R.locals) (hdg : decode cc pc = .ok (.invokevirtual idx, 3)) (hn : as.length = n)
    (hst : st = ((Value.ref j0 :: as).map (xv (xrho is))).reverse ++ rest) (hrest : (rest.map fun v => v.category).sum ≤ 8)
    (hrc : xnth G (xrho is j0) = some (.inr (ci, fs))) (hcv : vwCl[ci]? = some cv) (hcn : cv.1 = y.cls)
    (hsel : xselP (xrho is) G is Gc) (hnd : va_nd (is.take Gc.length) = true) (hlen : ∀ r G1, post2 r G1 → G1.length = Gc.length)
    (kk : ∀ r G1, post2 r G1 → xputK (xrho is) is G1 G (fun G' => X (pc + 3) lv ((r.map (xv (xrho is))).toList ++ rest) G')) : X pc lv st G := by
  obtain ⟨p, e, s, m, args, below, meth, c, Q, dC, dI, ad, kI, kJ, kQ, A, H0, cells, slots, rfl, ⟨hx, hb, hml, hown, hts, hKK, hN⟩, hA, ⟨hcl, hsl⟩, -⟩ := h
  obtain ⟨y1, y2, y3, y4, y5⟩ := hY
  refine xW_call (av := (Value.ref (ad (xrho is j0)) :: as.map (xv (fun j => ad (xrho is j)))).toArray) hA hsel hlen ?_ hnd kk
  intro H locs ls hP hD hS hL hPc hDc
  have hrv : (xw ad kI kJ kQ G)[xrho is j0]? = some (ad (xrho is j0), .inr (ci, fs.map (xv ad))) := xw_at (by rw [← xnth_eq]; exact hrc)
  obtain ⟨cellB, g1, g2, g3⟩ := va_recv hKK hP hcv hrv
  rw [hcn] at g3
  refine va_runV (C := y.cls) (b := ad (xrho is j0)) (As := as.map (xv (fun j => ad (xrho is j)))) (n := n) (bytes := cb) (maxL := maxL) (ret := ret2) ⟨hx, hb, hml, hown, hts⟩ (hM dC dI (fun j => ad (xrho is j)) kI kJ kQ H.size) ⟨callB_of n hts (xgood y1) rfl hR.1 hR.2.1 (hts _ y2) (hts _ hlk) ⟨y3, y4, y5⟩ hR.2.2, hts _ hin, hts _ hse⟩ ⟨xblind, ⟨cellB, g1, g2, g3⟩, fun U hU hW => ⟨rfl, by rw [hU], by rw [hU]; exact hPc, va_K.moved hW.alike hKK, hDc, hN.warm hW⟩⟩ rfl (by simpa using hn) hL.1 ?_ ?_ hdg ⟨by omega, by omega⟩
  · show st.map (xv ad) = _
    rw [hst, xmap_rev]
    simp [xv]
  · rw [xcat_sum]
    exact lv_room hrest
/-- a static method -/
theorem xR.callS (h : xR l own cc R ret post nL X) {idx : Nat} {y : MethodName} {cb : ByteArray} {maxL n : Nat} {ret2 : Option FieldType} {rm : Room} {as : List Value} {Gc : List xE} {post2 : Option Value → List xE → Prop} (is : List Nat) (rest : List Value) {pc : Nat} {lv : List (Option Value)} {st : List Value} {G : List xE}
    (hM : xM l y cb maxL ret2 rm as Gc post2) (hY : xY y cb maxL ret2 n) (hlk : Cond.methodLink own idx y ∈ xT) (hin : Cond.static y ∈ xT)
    (hR : rm.cells = 0 ∧ rm.slots = 0 ∧ rm.frames + 1 ≤ R.frames ∧ 8 + (maxL + 11) + rm.locals ≤ R.locals) (hdg : decode cc pc = .ok (.invokestatic idx, 3)) (hn : as.length = n)
    (hst : st = (as.map (xv (xrho is))).reverse ++ rest) (hrest : (rest.map fun v => v.category).sum ≤ 8)
    (hsel : xselP (xrho is) G is Gc) (hnd : va_nd (is.take Gc.length) = true) (hlen : ∀ r G1, post2 r G1 → G1.length = Gc.length)
    (kk : ∀ r G1, post2 r G1 → xputK (xrho is) is G1 G (fun G' => X (pc + 3) lv ((r.map (xv (xrho is))).toList ++ rest) G')) : X pc lv st G := by
  obtain ⟨p, e, s, m, args, below, meth, c, Q, dC, dI, ad, kI, kJ, kQ, A, H0, cells, slots, rfl, ⟨hx, hb, hml, hown, hts, hKK, hN⟩, hA, ⟨hcl, hsl⟩, -⟩ := h
  obtain ⟨y1, y2, y3, y4, y5⟩ := hY
  refine xW_call (av := (as.map (xv (fun j => ad (xrho is j)))).toArray) hA hsel hlen ?_ hnd kk
  intro H locs ls hP hD hS hL hPc hDc
  refine va_runS (As := as.map (xv (fun j => ad (xrho is j)))) (n := n) (bytes := cb) (maxL := maxL) (ret := ret2) ⟨hx, hb, hml, hown, hts⟩ (hM dC dI (fun j => ad (xrho is j)) kI kJ kQ H.size) ⟨callB_of n hts (xgood y1) rfl hR.1 hR.2.1 (hts _ y2) (hts _ hlk) ⟨y3, y4, y5⟩ hR.2.2, hts _ hin⟩ ⟨xblind, fun U hU hW => ⟨rfl, by rw [hU], by rw [hU]; exact hPc, va_K.moved hW.alike hKK, hDc, hN.warm hW⟩⟩ rfl (by simpa using hn) hL.1 ?_ ?_ hdg ⟨by omega, by omega⟩
  · show st.map (xv ad) = _
    rw [hst, xmap_rev]
  · rw [xcat_sum]
    exact lv_room hrest
/-- a private static method of a nest mate -/
theorem xR.callSN (h : xR l own cc R ret post nL X) {idx : Nat} {host : String} {y : MethodName} {cb : ByteArray} {maxL n : Nat} {ret2 : Option FieldType} {rm : Room} {as : List Value} {Gc : List xE} {post2 : Option Value → List xE → Prop} (is : List Nat) (rest : List Value) {pc : Nat} {lv : List (Option Value)} {st : List Value} {G : List xE}
    (hM : xM l y cb maxL ret2 rm as Gc post2) (hY : xY y cb maxL ret2 n) (hlk : Cond.methodLinkNest own idx y host ∈ tables_1) (hin : Cond.static y ∈ xT)
    (hR : rm.cells = 0 ∧ rm.slots = 0 ∧ rm.frames + 1 ≤ R.frames ∧ 8 + (maxL + 11) + rm.locals ≤ R.locals) (hdg : decode cc pc = .ok (.invokestatic idx, 3)) (hn : as.length = n)
    (hst : st = (as.map (xv (xrho is))).reverse ++ rest) (hrest : (rest.map fun v => v.category).sum ≤ 8)
    (hsel : xselP (xrho is) G is Gc) (hnd : va_nd (is.take Gc.length) = true) (hlen : ∀ r G1, post2 r G1 → G1.length = Gc.length)
    (kk : ∀ r G1, post2 r G1 → xputK (xrho is) is G1 G (fun G' => X (pc + 3) lv ((r.map (xv (xrho is))).toList ++ rest) G')) : X pc lv st G := by
  obtain ⟨p, e, s, m, args, below, meth, c, Q, dC, dI, ad, kI, kJ, kQ, A, H0, cells, slots, rfl, ⟨hx, hb, hml, hown, hts, hKK, hN⟩, hA, ⟨hcl, hsl⟩, -⟩ := h
  obtain ⟨y1, y2, y3, y4, y5⟩ := hY
  refine xW_call (av := (as.map (xv (fun j => ad (xrho is j)))).toArray) hA hsel hlen ?_ hnd kk
  intro H locs ls hP hD hS hL hPc hDc
  refine va_runSN (host := host) (As := as.map (xv (fun j => ad (xrho is j)))) (n := n) (bytes := cb) (maxL := maxL) (ret := ret2) ⟨hx, hb, hml, hown, hts⟩ (hM dC dI (fun j => ad (xrho is j)) kI kJ kQ H.size) ⟨va_cnB n hts (xgood y1) rfl hR.1 hR.2.1 (hN _ hlk rfl) (hts _ y2) ⟨y3, y4, y5⟩ hR.2.2, hts _ hin, trivial⟩ ⟨xblind, fun U hU hW => ⟨rfl, by rw [hU], by rw [hU]; exact hPc, va_K.moved hW.alike hKK, hDc, hN.warm hW⟩⟩ rfl (by simpa using hn) hL.1 ?_ ?_ hdg ⟨by omega, by omega⟩
  · show st.map (xv ad) = _
    rw [hst, xmap_rev]
  · rw [xcat_sum]
    exact lv_room hrest
end XCALLS
/-- the locals with which a method begins -/
def xlv : List Value → Nat → List (Option Value)
  | [], n => List.replicate n none
  | v :: vs, n => cond (Nat.beq v.category 2) (some v :: none :: xlv vs (n - 2)) (some v :: xlv vs (n - 1))
theorem xlv_len : ∀ (as : List Value) (n : Nat), (lg_sl as).length ≤ n → (xlv as n).length = n
  | [], n, _ => by simp [xlv]
  | v :: vs, n, h => by
    unfold xlv
    rcases lv_cat v with hc | hc
    · have h1 : (lg_sl (v :: vs)).length = 1 + (lg_sl vs).length := by simp [lg_sl, hc]; omega
      rw [hc]
      show (some v :: xlv vs (n - 1)).length = n
      rw [List.length_cons, xlv_len vs (n - 1) (by omega)]
      omega
    · have h1 : (lg_sl (v :: vs)).length = 2 + (lg_sl vs).length := by simp [lg_sl, hc]; omega
      rw [hc]
      show (some v :: none :: xlv vs (n - 2)).length = n
      rw [List.length_cons, List.length_cons, xlv_len vs (n - 2) (by omega)]
      omega
theorem xlv_mem (ad : Nat → Nat) : ∀ (as : List Value) (n k i : Nat) (v : Value), (xlv as n)[i]? = some (some v) → (k + i, xv ad v) ∈ lv_args k (as.map (xv ad))
  | [], n, k, i, v, h => by
    simp [xlv, List.getElem?_replicate] at h
  | w :: vs, n, k, i, v, h => by
    unfold xlv at h
    show (k + i, xv ad v) ∈ (k, xv ad w) :: lv_args (if (xv ad w).category = 2 then k + 2 else k + 1) (vs.map (xv ad))
    rw [xv_cat]
    rcases lv_cat w with hc | hc
    · rw [hc] at h ⊢
      change (some w :: xlv vs (n - 1))[i]? = some (some v) at h
      cases i with
      | zero => simp at h; subst h; exact List.mem_cons_self
      | succ i =>
        rw [List.getElem?_cons_succ] at h
        have h2 := xlv_mem ad vs (n - 1) (k + 1) i v h
        refine List.mem_cons_of_mem _ ?_
        simp only [show ¬ (1 : Nat) = 2 by decide, if_false]
        rw [show k + (i + 1) = k + 1 + i by omega]
        exact h2
    · rw [hc] at h ⊢
      change (some w :: none :: xlv vs (n - 2))[i]? = some (some v) at h
      cases i with
      | zero => simp at h; subst h; exact List.mem_cons_self
      | succ i =>
        cases i with
        | zero => simp at h
        | succ i =>
          rw [List.getElem?_cons_succ, List.getElem?_cons_succ] at h
          have h2 := xlv_mem ad vs (n - 2) (k + 2) i v h
          refine List.mem_cons_of_mem _ ?_
          simp only [if_true]
          rw [show k + (i + 1 + 1) = k + 2 + i by omega]
          exact h2
theorem xsl_len (ad : Nat → Nat) (as : List Value) : (lg_sl (as.map (xv ad))).length = (lg_sl as).length := by
  induction as with
  | nil => rfl
  | cons v t ih =>
    have : (lg_sl (v :: t)).length = (if v.category = 2 then 2 else 1) + (lg_sl t).length := by
      by_cases hc : v.category = 2 <;> simp [lg_sl, hc] <;> omega
    have h2 : (lg_sl ((v :: t).map (xv ad))).length = (if (xv ad v).category = 2 then 2 else 1) + (lg_sl (t.map (xv ad))).length := by
      by_cases hc : (xv ad v).category = 2 <;> simp [lg_sl, hc] <;> omega
    rw [this, h2, ih, xv_cat]
theorem xM.of {l : Launch} {y : MethodName} {cc : ByteArray} {maxL : Nat} {ret : Option FieldType} {rm : Room} {as : List Value} {G : List xE} {post : Option Value → List xE → Prop} (hy : plainName y.cls = true) (hfit : (lg_sl as).length ≤ maxL)
    (body : ∀ X, xR l y.cls cc rm ret post maxL X → X 0 (xlv as maxL) [] G) : xM l y cc maxL ret rm as G post := by
  intro dC dI ad kI kJ kQ sz
  refine Met.ofW (cc := cc) (maxL := maxL) (ret := ret) hy rfl ?_
  intro p e s m args below meth c s₁ B hml hv
  obtain ⟨rfl, hsz, hP, hK, hD0, hN⟩ := hv
  have hx := B.exec
  have hb := B.bytes
  have hr := B.returns
  have hts0 := atoms_spec (ws := Cond.code y cc maxL ret :: xT) B.pre
  have hown : s.vm.findClass y.cls = some m.cls := findClass_of_methodNamed B.named
  have hlocks := B.notSynchronized
  subst hsz
  have hD := hD0.self (sz := s.heap.size)
  have hA : ∀ q : Nat, s.heap.size ≤ q → va_A (xw ad kI kJ kQ G) s.heap.size q := fun q h => Or.inr h
  have hS : va_S (va_A (xw ad kI kJ kQ G) s.heap.size) s.heap s.heap [] := va_S.rf
  have hl := lv_entry (as.map (xv ad)) (n := maxL) (by rw [xsl_len]; exact hfit)
  rw [lg_entry_eq]
  generalize (lg_sl (as.map (xv ad)) ++ List.replicate (maxL - (lg_sl (as.map (xv ad))).length) Slot.unset).toArray = ls at hl ⊢
  have hL : xL ad maxL (xlv as maxL) ls := ⟨hl.1, hl.2.1, xlv_len as maxL hfit, fun i v hv => hl.2.2 (i, xv ad v) (by have := xlv_mem ad as maxL 0 i v hv; simpa using this)⟩
  have key := body (xW p l e rm s m (as.map (xv ad)).toArray below meth c (MQ below (xQ dC dI ad kI kJ kQ G s.heap.size post) (as.map (xv ad)).toArray s 0 0 (va_A (xw ad kI kJ kQ G) s.heap.size)) dC dI ad kI kJ kQ (va_A (xw ad kI kJ kQ G) s.heap.size) s.heap maxL 0 0) ?_
  · exact key s.heap [] ls hP hD hS hL
  · refine ⟨p, e, s, m, _, below, meth, c, _, dC, dI, ad, kI, kJ, kQ, _, s.heap, 0, 0, rfl, ⟨hx, hb, hml, hown, fun w hw => hts0 w (List.mem_cons_of_mem _ hw), hK, hN⟩, hA, ⟨Nat.zero_le _, Nat.zero_le _⟩, ?_, ?_, ?_⟩
    · intro pc lv x G1 hdg hn hp H locs ls2 hP2 hD2 hS2 hL2
      unfold xnar at hn
      split at hn
      next => exact W.iret hx hb hr (fun t ht hW => ⟨⟨some (.int x), G1, rfl, hp, by rw [ht]; exact hP2⟩, hS2.F ht⟩) hS2.2.2 hdg hlocks
      next => exact W.zret hx hb hr (of_decide_eq_true hn) (fun t ht hW => ⟨⟨some (.int x), G1, rfl, hp, by rw [ht]; exact hP2⟩, hS2.F ht⟩) hS2.2.2 hdg hlocks
      next => cases hn
    · intro pc lv x G1 hdg hn hp H locs ls2 hP2 hD2 hS2 hL2
      exact W.lret hx hb (by rw [hr, hn]) (fun t ht hW => ⟨⟨some (.long x), G1, rfl, hp, by rw [ht]; exact hP2⟩, hS2.F ht⟩) hS2.2.2 hdg hlocks
    · intro pc lv G1 hdg hn hp H locs ls2 hP2 hD2 hS2 hL2
      exact W.vret hx hb (by rw [hr, hn]) (fun t ht hW => ⟨⟨none, G1, rfl, hp, by rw [ht]; exact hP2⟩, hS2.F ht⟩) hS2.2.2 hdg hlocks
end
