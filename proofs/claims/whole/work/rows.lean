section
-- ===== PART A: goes FIRST, ahead of the names: the tables' words, and 'selects' of the private methods out of them =====
/-- a private method of a class that the tables say can be made, by its rows of tables_1 -/
def lw_okq (q : MethodName × Nat) : Prop := (q.1.cls ≠ "java/lang/invoke/MethodHandle" ∧ q.1.cls ≠ "java/lang/invoke/VarHandle") ∧ Cond.instantiable q.1.cls q.2 ∈ tables_1 ∧ Cond.privateMethod q.1 ∈ tables_1 ∧ Cond.instanceMethod q.1 ∈ tables_1
theorem lw_p0 : lw_okq (⟨"TransformRows$Closure", "restart", "()V"⟩, 4) := ⟨⟨by decide +kernel, by decide +kernel⟩, List.mem_of_getElem? (i := 140) (by decide +kernel), List.mem_of_getElem? (i := 148) (by decide +kernel), List.mem_of_getElem? (i := 149) (by decide +kernel)⟩
theorem lw_p1 : lw_okq (⟨"TransformRows$Shelf", "isAt", "(I[J)Z"⟩, 4) := ⟨⟨by decide +kernel, by decide +kernel⟩, List.mem_of_getElem? (i := 24) (by decide +kernel), List.mem_of_getElem? (i := 167) (by decide +kernel), List.mem_of_getElem? (i := 168) (by decide +kernel)⟩
theorem lw_p2 : lw_okq (⟨"TransformRows", "keepTriple", "(IIII)I"⟩, 17) := ⟨⟨by decide +kernel, by decide +kernel⟩, List.mem_of_getElem? (i := 16) (by decide +kernel), List.mem_of_getElem? (i := 245) (by decide +kernel), List.mem_of_getElem? (i := 246) (by decide +kernel)⟩
theorem lw_p3 : lw_okq (⟨"TransformRows", "keepGiven", "(I[J)I"⟩, 17) := ⟨⟨by decide +kernel, by decide +kernel⟩, List.mem_of_getElem? (i := 16) (by decide +kernel), List.mem_of_getElem? (i := 249) (by decide +kernel), List.mem_of_getElem? (i := 250) (by decide +kernel)⟩
theorem lw_p4 : lw_okq (⟨"TransformRows", "keepObject", "(I[J)I"⟩, 17) := ⟨⟨by decide +kernel, by decide +kernel⟩, List.mem_of_getElem? (i := 16) (by decide +kernel), List.mem_of_getElem? (i := 257) (by decide +kernel), List.mem_of_getElem? (i := 258) (by decide +kernel)⟩
theorem lw_p5 : lw_okq (⟨"TransformRows", "crossRatio", "(I)J"⟩, 17) := ⟨⟨by decide +kernel, by decide +kernel⟩, List.mem_of_getElem? (i := 16) (by decide +kernel), List.mem_of_getElem? (i := 338) (by decide +kernel), List.mem_of_getElem? (i := 339) (by decide +kernel)⟩
theorem lw_p6 : lw_okq (⟨"TransformRows$Maker", "buildShift", "([J)I"⟩, 7) := ⟨⟨by decide +kernel, by decide +kernel⟩, List.mem_of_getElem? (i := 64) (by decide +kernel), List.mem_of_getElem? (i := 381) (by decide +kernel), List.mem_of_getElem? (i := 382) (by decide +kernel)⟩
theorem lw_p7 : lw_okq (⟨"TransformRows$Maker", "areNear", "(I)Z"⟩, 7) := ⟨⟨by decide +kernel, by decide +kernel⟩, List.mem_of_getElem? (i := 64) (by decide +kernel), List.mem_of_getElem? (i := 385) (by decide +kernel), List.mem_of_getElem? (i := 386) (by decide +kernel)⟩
theorem lw_p8 : lw_okq (⟨"TransformRows$Maker", "areAll", "(II)Z"⟩, 7) := ⟨⟨by decide +kernel, by decide +kernel⟩, List.mem_of_getElem? (i := 64) (by decide +kernel), List.mem_of_getElem? (i := 389) (by decide +kernel), List.mem_of_getElem? (i := 390) (by decide +kernel)⟩
theorem lw_p9 : lw_okq (⟨"TransformRows$Maker", "buildTurn", "(JJ[J)I"⟩, 7) := ⟨⟨by decide +kernel, by decide +kernel⟩, List.mem_of_getElem? (i := 64) (by decide +kernel), List.mem_of_getElem? (i := 397) (by decide +kernel), List.mem_of_getElem? (i := 398) (by decide +kernel)⟩
theorem lw_p10 : lw_okq (⟨"TransformRows$Maker", "buildGlide", "(JJ[J)I"⟩, 7) := ⟨⟨by decide +kernel, by decide +kernel⟩, List.mem_of_getElem? (i := 64) (by decide +kernel), List.mem_of_getElem? (i := 402) (by decide +kernel), List.mem_of_getElem? (i := 403) (by decide +kernel)⟩
theorem lw_p11 : lw_okq (⟨"TransformRows$Maker", "buildStretch", "(JJ[J)I"⟩, 7) := ⟨⟨by decide +kernel, by decide +kernel⟩, List.mem_of_getElem? (i := 64) (by decide +kernel), List.mem_of_getElem? (i := 407) (by decide +kernel), List.mem_of_getElem? (i := 408) (by decide +kernel)⟩
theorem lw_p12 : lw_okq (⟨"TransformRows$Maker", "buildLikeness", "([J)I"⟩, 7) := ⟨⟨by decide +kernel, by decide +kernel⟩, List.mem_of_getElem? (i := 64) (by decide +kernel), List.mem_of_getElem? (i := 411) (by decide +kernel), List.mem_of_getElem? (i := 412) (by decide +kernel)⟩
theorem lw_p13 : lw_okq (⟨"TransformRows$Maker", "buildAffine", "([J)I"⟩, 7) := ⟨⟨by decide +kernel, by decide +kernel⟩, List.mem_of_getElem? (i := 64) (by decide +kernel), List.mem_of_getElem? (i := 415) (by decide +kernel), List.mem_of_getElem? (i := 416) (by decide +kernel)⟩
theorem lw_p14 : lw_okq (⟨"TransformRows$Maker", "findSides", "(I[[J)Z"⟩, 7) := ⟨⟨by decide +kernel, by decide +kernel⟩, List.mem_of_getElem? (i := 64) (by decide +kernel), List.mem_of_getElem? (i := 419) (by decide +kernel), List.mem_of_getElem? (i := 420) (by decide +kernel)⟩
theorem lw_p15 : lw_okq (⟨"TransformRows$Maker", "putWeighted", "(I[J)V"⟩, 7) := ⟨⟨by decide +kernel, by decide +kernel⟩, List.mem_of_getElem? (i := 64) (by decide +kernel), List.mem_of_getElem? (i := 425) (by decide +kernel), List.mem_of_getElem? (i := 426) (by decide +kernel)⟩
def lw_privs_1 : List (MethodName × Nat) := [(⟨"TransformRows$Closure", "restart", "()V"⟩, 4), (⟨"TransformRows$Shelf", "isAt", "(I[J)Z"⟩, 4), (⟨"TransformRows", "keepTriple", "(IIII)I"⟩, 17), (⟨"TransformRows", "keepGiven", "(I[J)I"⟩, 17), (⟨"TransformRows", "keepObject", "(I[J)I"⟩, 17), (⟨"TransformRows", "crossRatio", "(I)J"⟩, 17), (⟨"TransformRows$Maker", "buildShift", "([J)I"⟩, 7), (⟨"TransformRows$Maker", "areNear", "(I)Z"⟩, 7), (⟨"TransformRows$Maker", "areAll", "(II)Z"⟩, 7), (⟨"TransformRows$Maker", "buildTurn", "(JJ[J)I"⟩, 7), (⟨"TransformRows$Maker", "buildGlide", "(JJ[J)I"⟩, 7), (⟨"TransformRows$Maker", "buildStretch", "(JJ[J)I"⟩, 7), (⟨"TransformRows$Maker", "buildLikeness", "([J)I"⟩, 7), (⟨"TransformRows$Maker", "buildAffine", "([J)I"⟩, 7), (⟨"TransformRows$Maker", "findSides", "(I[[J)Z"⟩, 7), (⟨"TransformRows$Maker", "putWeighted", "(I[J)V"⟩, 7)]
theorem lw_r1 : ∀ q ∈ lw_privs_1, lw_okq q := List.forall_mem_cons.mpr ⟨lw_p0, List.forall_mem_cons.mpr ⟨lw_p1, List.forall_mem_cons.mpr ⟨lw_p2, List.forall_mem_cons.mpr ⟨lw_p3, List.forall_mem_cons.mpr ⟨lw_p4, List.forall_mem_cons.mpr ⟨lw_p5, List.forall_mem_cons.mpr ⟨lw_p6, List.forall_mem_cons.mpr ⟨lw_p7, List.forall_mem_cons.mpr ⟨lw_p8, List.forall_mem_cons.mpr ⟨lw_p9, List.forall_mem_cons.mpr ⟨lw_p10, List.forall_mem_cons.mpr ⟨lw_p11, List.forall_mem_cons.mpr ⟨lw_p12, List.forall_mem_cons.mpr ⟨lw_p13, List.forall_mem_cons.mpr ⟨lw_p14, List.forall_mem_cons.mpr ⟨lw_p15, fun _ h => absurd h List.not_mem_nil⟩⟩⟩⟩⟩⟩⟩⟩⟩⟩⟩⟩⟩⟩⟩⟩
theorem lw_p16 : lw_okq (⟨"TransformRows$Maker", "buildProjective", "([J)I"⟩, 7) := ⟨⟨by decide +kernel, by decide +kernel⟩, List.mem_of_getElem? (i := 64) (by decide +kernel), List.mem_of_getElem? (i := 429) (by decide +kernel), List.mem_of_getElem? (i := 430) (by decide +kernel)⟩
theorem lw_p17 : lw_okq (⟨"TransformRows$Maker", "findWeights", "()Z"⟩, 7) := ⟨⟨by decide +kernel, by decide +kernel⟩, List.mem_of_getElem? (i := 64) (by decide +kernel), List.mem_of_getElem? (i := 433) (by decide +kernel), List.mem_of_getElem? (i := 434) (by decide +kernel)⟩
theorem lw_p18 : lw_okq (⟨"TransformRows$Maker", "buildAny", "([J)I"⟩, 7) := ⟨⟨by decide +kernel, by decide +kernel⟩, List.mem_of_getElem? (i := 64) (by decide +kernel), List.mem_of_getElem? (i := 439) (by decide +kernel), List.mem_of_getElem? (i := 440) (by decide +kernel)⟩
theorem lw_p19 : lw_okq (⟨"TransformRows", "keepMap", "([J)I"⟩, 17) := ⟨⟨by decide +kernel, by decide +kernel⟩, List.mem_of_getElem? (i := 16) (by decide +kernel), List.mem_of_getElem? (i := 444) (by decide +kernel), List.mem_of_getElem? (i := 445) (by decide +kernel)⟩
theorem lw_p20 : lw_okq (⟨"TransformRows$Owns", "takeRow", "([J)Z"⟩, 6) := ⟨⟨by decide +kernel, by decide +kernel⟩, List.mem_of_getElem? (i := 114) (by decide +kernel), List.mem_of_getElem? (i := 565) (by decide +kernel), List.mem_of_getElem? (i := 566) (by decide +kernel)⟩
theorem lw_p21 : lw_okq (⟨"TransformRowsModel", "three", "(IIII)I"⟩, 18) := ⟨⟨by decide +kernel, by decide +kernel⟩, List.mem_of_getElem? (i := 618) (by decide +kernel), List.mem_of_getElem? (i := 683) (by decide +kernel), List.mem_of_getElem? (i := 684) (by decide +kernel)⟩
theorem lw_p22 : lw_okq (⟨"TransformRowsModel", "object", "(I)I"⟩, 18) := ⟨⟨by decide +kernel, by decide +kernel⟩, List.mem_of_getElem? (i := 618) (by decide +kernel), List.mem_of_getElem? (i := 692) (by decide +kernel), List.mem_of_getElem? (i := 693) (by decide +kernel)⟩
theorem lw_p23 : lw_okq (⟨"TransformRowsModel", "least", "([JI)Z"⟩, 18) := ⟨⟨by decide +kernel, by decide +kernel⟩, List.mem_of_getElem? (i := 618) (by decide +kernel), List.mem_of_getElem? (i := 696) (by decide +kernel), List.mem_of_getElem? (i := 697) (by decide +kernel)⟩
theorem lw_p24 : lw_okq (⟨"TransformRowsModel", "isSort", "(II)Z"⟩, 18) := ⟨⟨by decide +kernel, by decide +kernel⟩, List.mem_of_getElem? (i := 618) (by decide +kernel), List.mem_of_getElem? (i := 722) (by decide +kernel), List.mem_of_getElem? (i := 723) (by decide +kernel)⟩
theorem lw_p25 : lw_okq (⟨"TransformRowsModel", "crossOf", "(II)V"⟩, 18) := ⟨⟨by decide +kernel, by decide +kernel⟩, List.mem_of_getElem? (i := 618) (by decide +kernel), List.mem_of_getElem? (i := 726) (by decide +kernel), List.mem_of_getElem? (i := 727) (by decide +kernel)⟩
theorem lw_p26 : lw_okq (⟨"TransformRowsModel", "at", "(II)J"⟩, 18) := ⟨⟨by decide +kernel, by decide +kernel⟩, List.mem_of_getElem? (i := 618) (by decide +kernel), List.mem_of_getElem? (i := 730) (by decide +kernel), List.mem_of_getElem? (i := 731) (by decide +kernel)⟩
theorem lw_p27 : lw_okq (⟨"TransformRowsModel", "dot", "(II)J"⟩, 18) := ⟨⟨by decide +kernel, by decide +kernel⟩, List.mem_of_getElem? (i := 618) (by decide +kernel), List.mem_of_getElem? (i := 738) (by decide +kernel), List.mem_of_getElem? (i := 739) (by decide +kernel)⟩
theorem lw_p28 : lw_okq (⟨"TransformRowsModel", "areInLine", "(III)Z"⟩, 18) := ⟨⟨by decide +kernel, by decide +kernel⟩, List.mem_of_getElem? (i := 618) (by decide +kernel), List.mem_of_getElem? (i := 751) (by decide +kernel), List.mem_of_getElem? (i := 752) (by decide +kernel)⟩
theorem lw_p29 : lw_okq (⟨"TransformRowsModel", "part", "(III)J"⟩, 18) := ⟨⟨by decide +kernel, by decide +kernel⟩, List.mem_of_getElem? (i := 618) (by decide +kernel), List.mem_of_getElem? (i := 755) (by decide +kernel), List.mem_of_getElem? (i := 756) (by decide +kernel)⟩
theorem lw_p30 : lw_okq (⟨"TransformRowsModel", "mirror", "()Z"⟩, 18) := ⟨⟨by decide +kernel, by decide +kernel⟩, List.mem_of_getElem? (i := 618) (by decide +kernel), List.mem_of_getElem? (i := 771) (by decide +kernel), List.mem_of_getElem? (i := 772) (by decide +kernel)⟩
theorem lw_p31 : lw_okq (⟨"TransformRowsModel", "areGiven", "(II)Z"⟩, 18) := ⟨⟨by decide +kernel, by decide +kernel⟩, List.mem_of_getElem? (i := 618) (by decide +kernel), List.mem_of_getElem? (i := 775) (by decide +kernel), List.mem_of_getElem? (i := 776) (by decide +kernel)⟩
def lw_privs_2 : List (MethodName × Nat) := [(⟨"TransformRows$Maker", "buildProjective", "([J)I"⟩, 7), (⟨"TransformRows$Maker", "findWeights", "()Z"⟩, 7), (⟨"TransformRows$Maker", "buildAny", "([J)I"⟩, 7), (⟨"TransformRows", "keepMap", "([J)I"⟩, 17), (⟨"TransformRows$Owns", "takeRow", "([J)Z"⟩, 6), (⟨"TransformRowsModel", "three", "(IIII)I"⟩, 18), (⟨"TransformRowsModel", "object", "(I)I"⟩, 18), (⟨"TransformRowsModel", "least", "([JI)Z"⟩, 18), (⟨"TransformRowsModel", "isSort", "(II)Z"⟩, 18), (⟨"TransformRowsModel", "crossOf", "(II)V"⟩, 18), (⟨"TransformRowsModel", "at", "(II)J"⟩, 18), (⟨"TransformRowsModel", "dot", "(II)J"⟩, 18), (⟨"TransformRowsModel", "areInLine", "(III)Z"⟩, 18), (⟨"TransformRowsModel", "part", "(III)J"⟩, 18), (⟨"TransformRowsModel", "mirror", "()Z"⟩, 18), (⟨"TransformRowsModel", "areGiven", "(II)Z"⟩, 18)]
theorem lw_r2 : ∀ q ∈ lw_privs_2, lw_okq q := List.forall_mem_cons.mpr ⟨lw_p16, List.forall_mem_cons.mpr ⟨lw_p17, List.forall_mem_cons.mpr ⟨lw_p18, List.forall_mem_cons.mpr ⟨lw_p19, List.forall_mem_cons.mpr ⟨lw_p20, List.forall_mem_cons.mpr ⟨lw_p21, List.forall_mem_cons.mpr ⟨lw_p22, List.forall_mem_cons.mpr ⟨lw_p23, List.forall_mem_cons.mpr ⟨lw_p24, List.forall_mem_cons.mpr ⟨lw_p25, List.forall_mem_cons.mpr ⟨lw_p26, List.forall_mem_cons.mpr ⟨lw_p27, List.forall_mem_cons.mpr ⟨lw_p28, List.forall_mem_cons.mpr ⟨lw_p29, List.forall_mem_cons.mpr ⟨lw_p30, List.forall_mem_cons.mpr ⟨lw_p31, fun _ h => absurd h List.not_mem_nil⟩⟩⟩⟩⟩⟩⟩⟩⟩⟩⟩⟩⟩⟩⟩⟩
theorem lw_p32 : lw_okq (⟨"TransformRowsModel", "isFar", "(I)Z"⟩, 18) := ⟨⟨by decide +kernel, by decide +kernel⟩, List.mem_of_getElem? (i := 618) (by decide +kernel), List.mem_of_getElem? (i := 779) (by decide +kernel), List.mem_of_getElem? (i := 780) (by decide +kernel)⟩
theorem lw_p33 : lw_okq (⟨"TransformRowsModel", "set", "(JJJJJJ)V"⟩, 18) := ⟨⟨by decide +kernel, by decide +kernel⟩, List.mem_of_getElem? (i := 618) (by decide +kernel), List.mem_of_getElem? (i := 784) (by decide +kernel), List.mem_of_getElem? (i := 785) (by decide +kernel)⟩
theorem lw_p34 : lw_okq (⟨"TransformRowsModel", "glide", "(JJ)Z"⟩, 18) := ⟨⟨by decide +kernel, by decide +kernel⟩, List.mem_of_getElem? (i := 618) (by decide +kernel), List.mem_of_getElem? (i := 788) (by decide +kernel), List.mem_of_getElem? (i := 789) (by decide +kernel)⟩
theorem lw_p35 : lw_okq (⟨"TransformRowsModel", "any", "()Z"⟩, 18) := ⟨⟨by decide +kernel, by decide +kernel⟩, List.mem_of_getElem? (i := 618) (by decide +kernel), List.mem_of_getElem? (i := 795) (by decide +kernel), List.mem_of_getElem? (i := 796) (by decide +kernel)⟩
theorem lw_p36 : lw_okq (⟨"TransformRowsModel", "simple", "(IJJ)Z"⟩, 18) := ⟨⟨by decide +kernel, by decide +kernel⟩, List.mem_of_getElem? (i := 618) (by decide +kernel), List.mem_of_getElem? (i := 802) (by decide +kernel), List.mem_of_getElem? (i := 803) (by decide +kernel)⟩
theorem lw_p37 : lw_okq (⟨"TransformRowsModel", "mayBe", "(I)Z"⟩, 18) := ⟨⟨by decide +kernel, by decide +kernel⟩, List.mem_of_getElem? (i := 618) (by decide +kernel), List.mem_of_getElem? (i := 806) (by decide +kernel), List.mem_of_getElem? (i := 807) (by decide +kernel)⟩
theorem lw_p38 : lw_okq (⟨"TransformRowsModel", "byPoints", "(I)I"⟩, 18) := ⟨⟨by decide +kernel, by decide +kernel⟩, List.mem_of_getElem? (i := 618) (by decide +kernel), List.mem_of_getElem? (i := 810) (by decide +kernel), List.mem_of_getElem? (i := 811) (by decide +kernel)⟩
theorem lw_p39 : lw_okq (⟨"TransformRowsModel", "likeness", "()V"⟩, 18) := ⟨⟨by decide +kernel, by decide +kernel⟩, List.mem_of_getElem? (i := 618) (by decide +kernel), List.mem_of_getElem? (i := 817) (by decide +kernel), List.mem_of_getElem? (i := 818) (by decide +kernel)⟩
theorem lw_p40 : lw_okq (⟨"TransformRowsModel", "place", "(II)J"⟩, 18) := ⟨⟨by decide +kernel, by decide +kernel⟩, List.mem_of_getElem? (i := 618) (by decide +kernel), List.mem_of_getElem? (i := 821) (by decide +kernel), List.mem_of_getElem? (i := 822) (by decide +kernel)⟩
theorem lw_p41 : lw_okq (⟨"TransformRowsModel", "mod", "(J)J"⟩, 18) := ⟨⟨by decide +kernel, by decide +kernel⟩, List.mem_of_getElem? (i := 618) (by decide +kernel), List.mem_of_getElem? (i := 825) (by decide +kernel), List.mem_of_getElem? (i := 826) (by decide +kernel)⟩
theorem lw_p42 : lw_okq (⟨"TransformRowsModel", "inverse", "(J)J"⟩, 18) := ⟨⟨by decide +kernel, by decide +kernel⟩, List.mem_of_getElem? (i := 618) (by decide +kernel), List.mem_of_getElem? (i := 829) (by decide +kernel), List.mem_of_getElem? (i := 830) (by decide +kernel)⟩
theorem lw_p43 : lw_okq (⟨"TransformRowsModel", "affine", "()V"⟩, 18) := ⟨⟨by decide +kernel, by decide +kernel⟩, List.mem_of_getElem? (i := 618) (by decide +kernel), List.mem_of_getElem? (i := 833) (by decide +kernel), List.mem_of_getElem? (i := 834) (by decide +kernel)⟩
theorem lw_p44 : lw_okq (⟨"TransformRowsModel", "turned", "(III)J"⟩, 18) := ⟨⟨by decide +kernel, by decide +kernel⟩, List.mem_of_getElem? (i := 618) (by decide +kernel), List.mem_of_getElem? (i := 837) (by decide +kernel), List.mem_of_getElem? (i := 838) (by decide +kernel)⟩
theorem lw_p45 : lw_okq (⟨"TransformRowsModel", "projective", "()V"⟩, 18) := ⟨⟨by decide +kernel, by decide +kernel⟩, List.mem_of_getElem? (i := 618) (by decide +kernel), List.mem_of_getElem? (i := 841) (by decide +kernel), List.mem_of_getElem? (i := 842) (by decide +kernel)⟩
theorem lw_p46 : lw_okq (⟨"TransformRowsModel", "share", "(II)J"⟩, 18) := ⟨⟨by decide +kernel, by decide +kernel⟩, List.mem_of_getElem? (i := 618) (by decide +kernel), List.mem_of_getElem? (i := 845) (by decide +kernel), List.mem_of_getElem? (i := 846) (by decide +kernel)⟩
theorem lw_p47 : lw_okq (⟨"TransformRowsModel", "tellBack", "()Z"⟩, 18) := ⟨⟨by decide +kernel, by decide +kernel⟩, List.mem_of_getElem? (i := 618) (by decide +kernel), List.mem_of_getElem? (i := 849) (by decide +kernel), List.mem_of_getElem? (i := 850) (by decide +kernel)⟩
def lw_privs_3 : List (MethodName × Nat) := [(⟨"TransformRowsModel", "isFar", "(I)Z"⟩, 18), (⟨"TransformRowsModel", "set", "(JJJJJJ)V"⟩, 18), (⟨"TransformRowsModel", "glide", "(JJ)Z"⟩, 18), (⟨"TransformRowsModel", "any", "()Z"⟩, 18), (⟨"TransformRowsModel", "simple", "(IJJ)Z"⟩, 18), (⟨"TransformRowsModel", "mayBe", "(I)Z"⟩, 18), (⟨"TransformRowsModel", "byPoints", "(I)I"⟩, 18), (⟨"TransformRowsModel", "likeness", "()V"⟩, 18), (⟨"TransformRowsModel", "place", "(II)J"⟩, 18), (⟨"TransformRowsModel", "mod", "(J)J"⟩, 18), (⟨"TransformRowsModel", "inverse", "(J)J"⟩, 18), (⟨"TransformRowsModel", "affine", "()V"⟩, 18), (⟨"TransformRowsModel", "turned", "(III)J"⟩, 18), (⟨"TransformRowsModel", "projective", "()V"⟩, 18), (⟨"TransformRowsModel", "share", "(II)J"⟩, 18), (⟨"TransformRowsModel", "tellBack", "()Z"⟩, 18)]
theorem lw_r3 : ∀ q ∈ lw_privs_3, lw_okq q := List.forall_mem_cons.mpr ⟨lw_p32, List.forall_mem_cons.mpr ⟨lw_p33, List.forall_mem_cons.mpr ⟨lw_p34, List.forall_mem_cons.mpr ⟨lw_p35, List.forall_mem_cons.mpr ⟨lw_p36, List.forall_mem_cons.mpr ⟨lw_p37, List.forall_mem_cons.mpr ⟨lw_p38, List.forall_mem_cons.mpr ⟨lw_p39, List.forall_mem_cons.mpr ⟨lw_p40, List.forall_mem_cons.mpr ⟨lw_p41, List.forall_mem_cons.mpr ⟨lw_p42, List.forall_mem_cons.mpr ⟨lw_p43, List.forall_mem_cons.mpr ⟨lw_p44, List.forall_mem_cons.mpr ⟨lw_p45, List.forall_mem_cons.mpr ⟨lw_p46, List.forall_mem_cons.mpr ⟨lw_p47, fun _ h => absurd h List.not_mem_nil⟩⟩⟩⟩⟩⟩⟩⟩⟩⟩⟩⟩⟩⟩⟩⟩
theorem lw_p48 : lw_okq (⟨"TransformRowsModel", "small", "(J)Z"⟩, 18) := ⟨⟨by decide +kernel, by decide +kernel⟩, List.mem_of_getElem? (i := 618) (by decide +kernel), List.mem_of_getElem? (i := 853) (by decide +kernel), List.mem_of_getElem? (i := 854) (by decide +kernel)⟩
theorem lw_p49 : lw_okq (⟨"TransformRowsModel", "isTried", "(II)Z"⟩, 18) := ⟨⟨by decide +kernel, by decide +kernel⟩, List.mem_of_getElem? (i := 618) (by decide +kernel), List.mem_of_getElem? (i := 857) (by decide +kernel), List.mem_of_getElem? (i := 858) (by decide +kernel)⟩
theorem lw_p50 : lw_okq (⟨"TransformRowsModel", "takes", "(II)Z"⟩, 18) := ⟨⟨by decide +kernel, by decide +kernel⟩, List.mem_of_getElem? (i := 618) (by decide +kernel), List.mem_of_getElem? (i := 861) (by decide +kernel), List.mem_of_getElem? (i := 862) (by decide +kernel)⟩
theorem lw_p51 : lw_okq (⟨"TransformRowsModel", "map", "()I"⟩, 18) := ⟨⟨by decide +kernel, by decide +kernel⟩, List.mem_of_getElem? (i := 618) (by decide +kernel), List.mem_of_getElem? (i := 865) (by decide +kernel), List.mem_of_getElem? (i := 866) (by decide +kernel)⟩
theorem lw_p52 : lw_okq (⟨"TransformRowsModel", "isMap", "(I)Z"⟩, 18) := ⟨⟨by decide +kernel, by decide +kernel⟩, List.mem_of_getElem? (i := 618) (by decide +kernel), List.mem_of_getElem? (i := 877) (by decide +kernel), List.mem_of_getElem? (i := 878) (by decide +kernel)⟩
theorem lw_p53 : lw_okq (⟨"TransformRowsModel", "bring", "(I[J)V"⟩, 18) := ⟨⟨by decide +kernel, by decide +kernel⟩, List.mem_of_getElem? (i := 618) (by decide +kernel), List.mem_of_getElem? (i := 885) (by decide +kernel), List.mem_of_getElem? (i := 886) (by decide +kernel)⟩
theorem lw_p54 : lw_okq (⟨"TransformRowsModel", "conicImage", "(I)V"⟩, 18) := ⟨⟨by decide +kernel, by decide +kernel⟩, List.mem_of_getElem? (i := 618) (by decide +kernel), List.mem_of_getElem? (i := 900) (by decide +kernel), List.mem_of_getElem? (i := 901) (by decide +kernel)⟩
theorem lw_p55 : lw_okq (⟨"TransformRowsModel", "isAll", "([J)Z"⟩, 18) := ⟨⟨by decide +kernel, by decide +kernel⟩, List.mem_of_getElem? (i := 618) (by decide +kernel), List.mem_of_getElem? (i := 908) (by decide +kernel), List.mem_of_getElem? (i := 909) (by decide +kernel)⟩
theorem lw_p56 : lw_okq (⟨"TransformRowsModel", "flatKind", "()I"⟩, 18) := ⟨⟨by decide +kernel, by decide +kernel⟩, List.mem_of_getElem? (i := 618) (by decide +kernel), List.mem_of_getElem? (i := 912) (by decide +kernel), List.mem_of_getElem? (i := 913) (by decide +kernel)⟩
theorem lw_p57 : lw_okq (⟨"TransformRowsModel", "isTwiceAll", "([J)Z"⟩, 18) := ⟨⟨by decide +kernel, by decide +kernel⟩, List.mem_of_getElem? (i := 618) (by decide +kernel), List.mem_of_getElem? (i := 916) (by decide +kernel), List.mem_of_getElem? (i := 917) (by decide +kernel)⟩
theorem lw_p58 : lw_okq (⟨"TransformRowsModel", "rank", "([JJ)I"⟩, 18) := ⟨⟨by decide +kernel, by decide +kernel⟩, List.mem_of_getElem? (i := 618) (by decide +kernel), List.mem_of_getElem? (i := 920) (by decide +kernel), List.mem_of_getElem? (i := 921) (by decide +kernel)⟩
theorem lw_p59 : lw_okq (⟨"TransformRowsModel", "farKind", "()I"⟩, 18) := ⟨⟨by decide +kernel, by decide +kernel⟩, List.mem_of_getElem? (i := 618) (by decide +kernel), List.mem_of_getElem? (i := 924) (by decide +kernel), List.mem_of_getElem? (i := 925) (by decide +kernel)⟩
theorem lw_p60 : lw_okq (⟨"TransformRowsModel", "value", "(I)J"⟩, 18) := ⟨⟨by decide +kernel, by decide +kernel⟩, List.mem_of_getElem? (i := 618) (by decide +kernel), List.mem_of_getElem? (i := 934) (by decide +kernel), List.mem_of_getElem? (i := 935) (by decide +kernel)⟩
theorem lw_p61 : lw_okq (⟨"TransformRowsModel", "find", "()I"⟩, 18) := ⟨⟨by decide +kernel, by decide +kernel⟩, List.mem_of_getElem? (i := 618) (by decide +kernel), List.mem_of_getElem? (i := 956) (by decide +kernel), List.mem_of_getElem? (i := 957) (by decide +kernel)⟩
def lw_privs_4 : List (MethodName × Nat) := [(⟨"TransformRowsModel", "small", "(J)Z"⟩, 18), (⟨"TransformRowsModel", "isTried", "(II)Z"⟩, 18), (⟨"TransformRowsModel", "takes", "(II)Z"⟩, 18), (⟨"TransformRowsModel", "map", "()I"⟩, 18), (⟨"TransformRowsModel", "isMap", "(I)Z"⟩, 18), (⟨"TransformRowsModel", "bring", "(I[J)V"⟩, 18), (⟨"TransformRowsModel", "conicImage", "(I)V"⟩, 18), (⟨"TransformRowsModel", "isAll", "([J)Z"⟩, 18), (⟨"TransformRowsModel", "flatKind", "()I"⟩, 18), (⟨"TransformRowsModel", "isTwiceAll", "([J)Z"⟩, 18), (⟨"TransformRowsModel", "rank", "([JJ)I"⟩, 18), (⟨"TransformRowsModel", "farKind", "()I"⟩, 18), (⟨"TransformRowsModel", "value", "(I)J"⟩, 18), (⟨"TransformRowsModel", "find", "()I"⟩, 18)]
theorem lw_r4 : ∀ q ∈ lw_privs_4, lw_okq q := List.forall_mem_cons.mpr ⟨lw_p48, List.forall_mem_cons.mpr ⟨lw_p49, List.forall_mem_cons.mpr ⟨lw_p50, List.forall_mem_cons.mpr ⟨lw_p51, List.forall_mem_cons.mpr ⟨lw_p52, List.forall_mem_cons.mpr ⟨lw_p53, List.forall_mem_cons.mpr ⟨lw_p54, List.forall_mem_cons.mpr ⟨lw_p55, List.forall_mem_cons.mpr ⟨lw_p56, List.forall_mem_cons.mpr ⟨lw_p57, List.forall_mem_cons.mpr ⟨lw_p58, List.forall_mem_cons.mpr ⟨lw_p59, List.forall_mem_cons.mpr ⟨lw_p60, List.forall_mem_cons.mpr ⟨lw_p61, fun _ h => absurd h List.not_mem_nil⟩⟩⟩⟩⟩⟩⟩⟩⟩⟩⟩⟩⟩⟩
def lw_privs : List (MethodName × Nat) := lw_privs_1 ++ (lw_privs_2 ++ (lw_privs_3 ++ (lw_privs_4)))
def lw_tbl : List Cond := k2_sels lw_privs ++ tables_1
theorem lw_privs_ok : ∀ q ∈ lw_privs, lw_okq q := by
  show ∀ q ∈ lw_privs_1 ++ (lw_privs_2 ++ (lw_privs_3 ++ (lw_privs_4))), lw_okq q
  exact List.forall_mem_append.mpr ⟨lw_r1, List.forall_mem_append.mpr ⟨lw_r2, List.forall_mem_append.mpr ⟨lw_r3, lw_r4⟩⟩⟩
-- ===== end of PART A; then your names; then what follows =====
end
section
abbrev xI : Type := Nat × Instr × Nat
def RX0 : String := "TransformRows$Closure"
def TX0 : u_T := fun k => match k with
  | 0 => ("TransformRows$Closure", "elements", "LTransformRows$Shelf;", true)
  | 1 => ("TransformRows$Closure", "before", "[J", true)
  | 2 => ("TransformRows$Closure", "after", "[J", true)
  | _ => ("TransformRows$Closure", "both", "[J", true)
def tyX0 : Nat → FieldType := fun k => match k with
  | 0 => .object "TransformRows$Shelf"
  | 1 => .array .long
  | 2 => .array .long
  | _ => .array .long
theorem nmX0 : ∀ a, a < 4 → ∀ b, b < 4 → a ≠ b → (TX0 a).2.1 ≠ (TX0 b).2.1 := by decide +kernel
theorem tyX0_ok : ∀ k, k < 4 → parseFieldDescriptor (TX0 k).2.2.1 = some (tyX0 k) := by decide +kernel
abbrev cX0_init : ByteArray := prog_2_method_1_code
def yX0_init : MethodName := ⟨RX0, "<init>", "()V"⟩
abbrev cX0_grow : ByteArray := prog_2_method_2_code
def yX0_grow : MethodName := ⟨RX0, "grow", "(LTransformRows$Shelf;LTransformRows$Lineup;I)I"⟩
abbrev cX0_restart : ByteArray := prog_2_method_3_code
def yX0_restart : MethodName := ⟨RX0, "restart", "()V"⟩
def RX1 : String := "TransformRows$Images"
def TX1 : u_T := fun k => match k with
  | 0 => ("TransformRows$Images", "inverse", "[J", true)
  | 1 => ("TransformRows$Images", "turned", "[J", true)
  | 2 => ("TransformRows$Images", "form", "[J", true)
  | _ => ("TransformRows$Images", "half", "[J", true)
def tyX1 : Nat → FieldType := fun k => match k with
  | 0 => .array .long
  | 1 => .array .long
  | 2 => .array .long
  | _ => .array .long
theorem nmX1 : ∀ a, a < 4 → ∀ b, b < 4 → a ≠ b → (TX1 a).2.1 ≠ (TX1 b).2.1 := by decide +kernel
theorem tyX1_ok : ∀ k, k < 4 → parseFieldDescriptor (TX1 k).2.2.1 = some (tyX1 k) := by decide +kernel
abbrev cX1_init : ByteArray := prog_3_method_1_code
def yX1_init : MethodName := ⟨RX1, "<init>", "()V"⟩
abbrev cX1_ofLine : ByteArray := prog_3_method_2_code
def yX1_ofLine : MethodName := ⟨RX1, "ofLine", "([J[J[J)V"⟩
abbrev cX1_ofConic : ByteArray := prog_3_method_3_code
def yX1_ofConic : MethodName := ⟨RX1, "ofConic", "([J[J)V"⟩
def RX2 : String := "TransformRows$Kinds"
def TX2 : u_T := fun k => match k with
  | _ => ("", "", "", false)
def tyX2 : Nat → FieldType := fun k => match k with
  | _ => .int
theorem nmX2 : ∀ a, a < 0 → ∀ b, b < 0 → a ≠ b → (TX2 a).2.1 ≠ (TX2 b).2.1 := by decide +kernel
theorem tyX2_ok : ∀ k, k < 0 → parseFieldDescriptor (TX2 k).2.2.1 = some (tyX2 k) := by decide +kernel
abbrev cX2_allStays : ByteArray := prog_4_method_2_code
def yX2_allStays : MethodName := ⟨RX2, "allStays", "([J)Z"⟩
abbrev cX2_keepsFar : ByteArray := prog_4_method_3_code
def yX2_keepsFar : MethodName := ⟨RX2, "keepsFar", "([J)Z"⟩
abbrev cX2_ofAffine : ByteArray := prog_4_method_4_code
def yX2_ofAffine : MethodName := ⟨RX2, "ofAffine", "([J)I"⟩
abbrev cX2_ofLikeness : ByteArray := prog_4_method_5_code
def yX2_ofLikeness : MethodName := ⟨RX2, "ofLikeness", "([J)I"⟩
abbrev cX2_ofTurnedOver : ByteArray := prog_4_method_6_code
def yX2_ofTurnedOver : MethodName := ⟨RX2, "ofTurnedOver", "([J)I"⟩
abbrev cX2_keepsSizes : ByteArray := prog_4_method_7_code
def yX2_keepsSizes : MethodName := ⟨RX2, "keepsSizes", "([J)Z"⟩
abbrev cX2_keepsLineOfPoints : ByteArray := prog_4_method_8_code
def yX2_keepsLineOfPoints : MethodName := ⟨RX2, "keepsLineOfPoints", "([J)Z"⟩
abbrev cX2_ofProjective : ByteArray := prog_4_method_9_code
def yX2_ofProjective : MethodName := ⟨RX2, "ofProjective", "([JLTransformRows$Owns;)I"⟩
def RX3 : String := "TransformRows$Least"
def TX3 : u_T := fun k => match k with
  | _ => ("", "", "", false)
def tyX3 : Nat → FieldType := fun k => match k with
  | _ => .int
theorem nmX3 : ∀ a, a < 0 → ∀ b, b < 0 → a ≠ b → (TX3 a).2.1 ≠ (TX3 b).2.1 := by decide +kernel
theorem tyX3_ok : ∀ k, k < 0 → parseFieldDescriptor (TX3 k).2.2.1 = some (tyX3 k) := by decide +kernel
abbrev cX3_divisor : ByteArray := prog_5_method_2_code
def yX3_divisor : MethodName := ⟨RX3, "divisor", "(JJ)J"⟩
abbrev cX3_reduce : ByteArray := prog_5_method_3_code
def yX3_reduce : MethodName := ⟨RX3, "reduce", "([JJ)Z"⟩
def RX4 : String := "TransformRows$Lineup"
def TX4 : u_T := fun k => match k with
  | 0 => ("TransformRows$Lineup", "members", "[I", true)
  | 1 => ("TransformRows$Lineup", "most", "I", true)
  | _ => ("TransformRows$Lineup", "size", "I", false)
def tyX4 : Nat → FieldType := fun k => match k with
  | 0 => .array .int
  | 1 => .int
  | _ => .int
theorem nmX4 : ∀ a, a < 3 → ∀ b, b < 3 → a ≠ b → (TX4 a).2.1 ≠ (TX4 b).2.1 := by decide +kernel
theorem tyX4_ok : ∀ k, k < 3 → parseFieldDescriptor (TX4 k).2.2.1 = some (tyX4 k) := by decide +kernel
abbrev cX4_init : ByteArray := prog_6_method_1_code
def yX4_init : MethodName := ⟨RX4, "<init>", "(I)V"⟩
abbrev cX4_size : ByteArray := prog_6_method_2_code
def yX4_size : MethodName := ⟨RX4, "size", "()I"⟩
abbrev cX4_member : ByteArray := prog_6_method_3_code
def yX4_member : MethodName := ⟨RX4, "member", "(I)I"⟩
abbrev cX4_append : ByteArray := prog_6_method_4_code
def yX4_append : MethodName := ⟨RX4, "append", "(I)I"⟩
abbrev cX4_clear : ByteArray := prog_6_method_5_code
def yX4_clear : MethodName := ⟨RX4, "clear", "()V"⟩
def RX5 : String := "TransformRows$Maker"
def TX5 : u_T := fun k => match k with
  | 0 => ("TransformRows$Maker", "sorts", "[I", true)
  | 1 => ("TransformRows$Maker", "given", "[[J", true)
  | 2 => ("TransformRows$Maker", "fromSides", "[[J", true)
  | 3 => ("TransformRows$Maker", "toSides", "[[J", true)
  | 4 => ("TransformRows$Maker", "weights", "[J", true)
  | 5 => ("TransformRows$Maker", "pair", "[J", true)
  | _ => ("TransformRows$Maker", "size", "I", false)
def tyX5 : Nat → FieldType := fun k => match k with
  | 0 => .array .int
  | 1 => .array (.array .long)
  | 2 => .array (.array .long)
  | 3 => .array (.array .long)
  | 4 => .array .long
  | 5 => .array .long
  | _ => .int
theorem nmX5 : ∀ a, a < 7 → ∀ b, b < 7 → a ≠ b → (TX5 a).2.1 ≠ (TX5 b).2.1 := by decide +kernel
theorem tyX5_ok : ∀ k, k < 7 → parseFieldDescriptor (TX5 k).2.2.1 = some (tyX5 k) := by decide +kernel
abbrev cX5_init : ByteArray := prog_7_method_1_code
def yX5_init : MethodName := ⟨RX5, "<init>", "()V"⟩
abbrev cX5_take : ByteArray := prog_7_method_2_code
def yX5_take : MethodName := ⟨RX5, "take", "(LTransformRows$Shelf;LTransformRows$Lineup;)V"⟩
abbrev cX5_build : ByteArray := prog_7_method_3_code
def yX5_build : MethodName := ⟨RX5, "build", "(IJJ[J)I"⟩
abbrev cX5_buildShift : ByteArray := prog_7_method_4_code
def yX5_buildShift : MethodName := ⟨RX5, "buildShift", "([J)I"⟩
abbrev cX5_buildTurn : ByteArray := prog_7_method_5_code
def yX5_buildTurn : MethodName := ⟨RX5, "buildTurn", "(JJ[J)I"⟩
abbrev cX5_buildStretch : ByteArray := prog_7_method_6_code
def yX5_buildStretch : MethodName := ⟨RX5, "buildStretch", "(JJ[J)I"⟩
abbrev cX5_buildGlide : ByteArray := prog_7_method_7_code
def yX5_buildGlide : MethodName := ⟨RX5, "buildGlide", "(JJ[J)I"⟩
abbrev cX5_buildLikeness : ByteArray := prog_7_method_8_code
def yX5_buildLikeness : MethodName := ⟨RX5, "buildLikeness", "([J)I"⟩
abbrev cX5_buildAffine : ByteArray := prog_7_method_9_code
def yX5_buildAffine : MethodName := ⟨RX5, "buildAffine", "([J)I"⟩
abbrev cX5_buildProjective : ByteArray := prog_7_method_10_code
def yX5_buildProjective : MethodName := ⟨RX5, "buildProjective", "([J)I"⟩
abbrev cX5_buildAny : ByteArray := prog_7_method_11_code
def yX5_buildAny : MethodName := ⟨RX5, "buildAny", "([J)I"⟩
abbrev cX5_areAll : ByteArray := prog_7_method_12_code
def yX5_areAll : MethodName := ⟨RX5, "areAll", "(II)Z"⟩
abbrev cX5_areNear : ByteArray := prog_7_method_13_code
def yX5_areNear : MethodName := ⟨RX5, "areNear", "(I)Z"⟩
abbrev cX5_putLikeness : ByteArray := prog_7_method_14_code
def yX5_putLikeness : MethodName := ⟨RX5, "putLikeness", "(JJJJJ[J)V"⟩
abbrev cX5_findSides : ByteArray := prog_7_method_15_code
def yX5_findSides : MethodName := ⟨RX5, "findSides", "(I[[J)Z"⟩
abbrev cX5_findWeights : ByteArray := prog_7_method_16_code
def yX5_findWeights : MethodName := ⟨RX5, "findWeights", "()Z"⟩
abbrev cX5_putWeighted : ByteArray := prog_7_method_17_code
def yX5_putWeighted : MethodName := ⟨RX5, "putWeighted", "(I[J)V"⟩
def RX6 : String := "TransformRows$Owns"
def TX6 : u_T := fun k => match k with
  | 0 => ("TransformRows$Owns", "values", "[J", true)
  | 1 => ("TransformRows$Owns", "less", "[J", true)
  | 2 => ("TransformRows$Owns", "minors", "[J", true)
  | 3 => ("TransformRows$Owns", "columns", "[J", true)
  | 4 => ("TransformRows$Owns", "fixedRow", "[J", true)
  | _ => ("TransformRows$Owns", "size", "I", false)
def tyX6 : Nat → FieldType := fun k => match k with
  | 0 => .array .long
  | 1 => .array .long
  | 2 => .array .long
  | 3 => .array .long
  | 4 => .array .long
  | _ => .int
theorem nmX6 : ∀ a, a < 6 → ∀ b, b < 6 → a ≠ b → (TX6 a).2.1 ≠ (TX6 b).2.1 := by decide +kernel
theorem tyX6_ok : ∀ k, k < 6 → parseFieldDescriptor (TX6 k).2.2.1 = some (tyX6 k) := by decide +kernel
abbrev cX6_init : ByteArray := prog_8_method_1_code
def yX6_init : MethodName := ⟨RX6, "<init>", "()V"⟩
abbrev cX6_has : ByteArray := prog_8_method_2_code
def yX6_has : MethodName := ⟨RX6, "has", "(I)Z"⟩
abbrev cX6_value : ByteArray := prog_8_method_3_code
def yX6_value : MethodName := ⟨RX6, "value", "(I)J"⟩
abbrev cX6_find : ByteArray := prog_8_method_4_code
def yX6_find : MethodName := ⟨RX6, "find", "([J)V"⟩
abbrev cX6_fixedBy : ByteArray := prog_8_method_5_code
def yX6_fixedBy : MethodName := ⟨RX6, "fixedBy", "([JJ)I"⟩
abbrev cX6_widestRow : ByteArray := prog_8_method_6_code
def yX6_widestRow : MethodName := ⟨RX6, "widestRow", "([J)J"⟩
abbrev cX6_takeRow : ByteArray := prog_8_method_7_code
def yX6_takeRow : MethodName := ⟨RX6, "takeRow", "([J)Z"⟩
def RX7 : String := "TransformRows$Plane"
def TX7 : u_T := fun k => match k with
  | _ => ("", "", "", false)
def tyX7 : Nat → FieldType := fun k => match k with
  | _ => .int
theorem nmX7 : ∀ a, a < 0 → ∀ b, b < 0 → a ≠ b → (TX7 a).2.1 ≠ (TX7 b).2.1 := by decide +kernel
theorem tyX7_ok : ∀ k, k < 0 → parseFieldDescriptor (TX7 k).2.2.1 = some (tyX7 k) := by decide +kernel
abbrev cX7_dot : ByteArray := prog_9_method_2_code
def yX7_dot : MethodName := ⟨RX7, "dot", "([J[J)J"⟩
abbrev cX7_wedge : ByteArray := prog_9_method_3_code
def yX7_wedge : MethodName := ⟨RX7, "wedge", "([J[J[J)V"⟩
abbrev cX7_wedgeCell : ByteArray := prog_9_method_4_code
def yX7_wedgeCell : MethodName := ⟨RX7, "wedgeCell", "([J[JI)J"⟩
abbrev cX7_conicAt : ByteArray := prog_9_method_5_code
def yX7_conicAt : MethodName := ⟨RX7, "conicAt", "([J[J)J"⟩
abbrev cX7_evenTable : ByteArray := prog_9_method_6_code
def yX7_evenTable : MethodName := ⟨RX7, "evenTable", "([J[J)V"⟩
abbrev cX7_shapeOf : ByteArray := prog_9_method_7_code
def yX7_shapeOf : MethodName := ⟨RX7, "shapeOf", "([J[J)I"⟩
def RX8 : String := "TransformRows$Shelf"
def TX8 : u_T := fun k => match k with
  | 0 => ("TransformRows$Shelf", "sorts", "[I", true)
  | 1 => ("TransformRows$Shelf", "cells", "[I", true)
  | 2 => ("TransformRows$Shelf", "most", "I", true)
  | _ => ("TransformRows$Shelf", "size", "I", false)
def tyX8 : Nat → FieldType := fun k => match k with
  | 0 => .array .int
  | 1 => .array .int
  | 2 => .int
  | _ => .int
theorem nmX8 : ∀ a, a < 4 → ∀ b, b < 4 → a ≠ b → (TX8 a).2.1 ≠ (TX8 b).2.1 := by decide +kernel
theorem tyX8_ok : ∀ k, k < 4 → parseFieldDescriptor (TX8 k).2.2.1 = some (tyX8 k) := by decide +kernel
abbrev cX8_init : ByteArray := prog_10_method_1_code
def yX8_init : MethodName := ⟨RX8, "<init>", "(I)V"⟩
abbrev cX8_size : ByteArray := prog_10_method_2_code
def yX8_size : MethodName := ⟨RX8, "size", "()I"⟩
abbrev cX8_has : ByteArray := prog_10_method_3_code
def yX8_has : MethodName := ⟨RX8, "has", "(I)Z"⟩
abbrev cX8_sortOf : ByteArray := prog_10_method_4_code
def yX8_sortOf : MethodName := ⟨RX8, "sortOf", "(I)I"⟩
abbrev cX8_cell : ByteArray := prog_10_method_5_code
def yX8_cell : MethodName := ⟨RX8, "cell", "(II)I"⟩
abbrev cX8_load : ByteArray := prog_10_method_6_code
def yX8_load : MethodName := ⟨RX8, "load", "(I[J)V"⟩
abbrev cX8_find : ByteArray := prog_10_method_7_code
def yX8_find : MethodName := ⟨RX8, "find", "(I[J)I"⟩
abbrev cX8_keep : ByteArray := prog_10_method_8_code
def yX8_keep : MethodName := ⟨RX8, "keep", "(I[J)I"⟩
abbrev cX8_clear : ByteArray := prog_10_method_9_code
def yX8_clear : MethodName := ⟨RX8, "clear", "()V"⟩
abbrev cX8_isAt : ByteArray := prog_10_method_10_code
def yX8_isAt : MethodName := ⟨RX8, "isAt", "(I[J)Z"⟩
def RX9 : String := "TransformRows$Tables"
def TX9 : u_T := fun k => match k with
  | _ => ("", "", "", false)
def tyX9 : Nat → FieldType := fun k => match k with
  | _ => .int
theorem nmX9 : ∀ a, a < 0 → ∀ b, b < 0 → a ≠ b → (TX9 a).2.1 ≠ (TX9 b).2.1 := by decide +kernel
theorem tyX9_ok : ∀ k, k < 0 → parseFieldDescriptor (TX9 k).2.2.1 = some (tyX9 k) := by decide +kernel
abbrev cX9_putRow : ByteArray := prog_11_method_2_code
def yX9_putRow : MethodName := ⟨RX9, "putRow", "([JIJJJ)V"⟩
abbrev cX9_apply : ByteArray := prog_11_method_3_code
def yX9_apply : MethodName := ⟨RX9, "apply", "([J[J[J)V"⟩
abbrev cX9_product : ByteArray := prog_11_method_4_code
def yX9_product : MethodName := ⟨RX9, "product", "([J[J[J)V"⟩
abbrev cX9_transpose : ByteArray := prog_11_method_5_code
def yX9_transpose : MethodName := ⟨RX9, "transpose", "([J[J)V"⟩
abbrev cX9_adjugate : ByteArray := prog_11_method_6_code
def yX9_adjugate : MethodName := ⟨RX9, "adjugate", "([J[J)V"⟩
abbrev cX9_determinant : ByteArray := prog_11_method_7_code
def yX9_determinant : MethodName := ⟨RX9, "determinant", "([J)J"⟩
abbrev cX9_trace : ByteArray := prog_11_method_8_code
def yX9_trace : MethodName := ⟨RX9, "trace", "([J)J"⟩
def RX10 : String := "TransformRows"
def TX10 : u_T := fun k => match k with
  | 0 => ("TransformRows", "objects", "LTransformRows$Shelf;", true)
  | 1 => ("TransformRows", "maps", "LTransformRows$Shelf;", true)
  | 2 => ("TransformRows", "row", "LTransformRows$Lineup;", true)
  | 3 => ("TransformRows", "seeds", "LTransformRows$Lineup;", true)
  | 4 => ("TransformRows", "maker", "LTransformRows$Maker;", true)
  | 5 => ("TransformRows", "images", "LTransformRows$Images;", true)
  | 6 => ("TransformRows", "owns", "LTransformRows$Owns;", true)
  | 7 => ("TransformRows", "closure", "LTransformRows$Closure;", true)
  | 8 => ("TransformRows", "triple", "[J", true)
  | 9 => ("TransformRows", "sextuple", "[J", true)
  | 10 => ("TransformRows", "first", "[J", true)
  | 11 => ("TransformRows", "second", "[J", true)
  | 12 => ("TransformRows", "result", "[J", true)
  | 13 => ("TransformRows", "p3", "[J", true)
  | 14 => ("TransformRows", "q3", "[J", true)
  | 15 => ("TransformRows", "r3", "[J", true)
  | _ => ("TransformRows", "s3", "[J", true)
def tyX10 : Nat → FieldType := fun k => match k with
  | 0 => .object "TransformRows$Shelf"
  | 1 => .object "TransformRows$Shelf"
  | 2 => .object "TransformRows$Lineup"
  | 3 => .object "TransformRows$Lineup"
  | 4 => .object "TransformRows$Maker"
  | 5 => .object "TransformRows$Images"
  | 6 => .object "TransformRows$Owns"
  | 7 => .object "TransformRows$Closure"
  | 8 => .array .long
  | 9 => .array .long
  | 10 => .array .long
  | 11 => .array .long
  | 12 => .array .long
  | 13 => .array .long
  | 14 => .array .long
  | 15 => .array .long
  | _ => .array .long
theorem nmX10 : ∀ a, a < 17 → ∀ b, b < 17 → a ≠ b → (TX10 a).2.1 ≠ (TX10 b).2.1 := by decide +kernel
theorem tyX10_ok : ∀ k, k < 17 → parseFieldDescriptor (TX10 k).2.2.1 = some (tyX10 k) := by decide +kernel
abbrev cX10_init : ByteArray := prog_1_method_1_code
def yX10_init : MethodName := ⟨RX10, "<init>", "()V"⟩
abbrev cX10_point : ByteArray := prog_1_method_2_code
def yX10_point : MethodName := ⟨RX10, "point", "(III)I"⟩
abbrev cX10_line : ByteArray := prog_1_method_3_code
def yX10_line : MethodName := ⟨RX10, "line", "(III)I"⟩
abbrev cX10_conic : ByteArray := prog_1_method_4_code
def yX10_conic : MethodName := ⟨RX10, "conic", "(IIIIII)I"⟩
abbrev cX10_number : ByteArray := prog_1_method_5_code
def yX10_number : MethodName := ⟨RX10, "number", "(II)I"⟩
abbrev cX10_join : ByteArray := prog_1_method_6_code
def yX10_join : MethodName := ⟨RX10, "join", "(II)I"⟩
abbrev cX10_on : ByteArray := prog_1_method_7_code
def yX10_on : MethodName := ⟨RX10, "on", "(II)I"⟩
abbrev cX10_shape : ByteArray := prog_1_method_8_code
def yX10_shape : MethodName := ⟨RX10, "shape", "(I)I"⟩
abbrev cX10_cross : ByteArray := prog_1_method_9_code
def yX10_cross : MethodName := ⟨RX10, "cross", "(IIIII)J"⟩
abbrev cX10_give : ByteArray := prog_1_method_10_code
def yX10_give : MethodName := ⟨RX10, "give", "(I)I"⟩
abbrev cX10_make : ByteArray := prog_1_method_11_code
def yX10_make : MethodName := ⟨RX10, "make", "(III)I"⟩
abbrev cX10_count : ByteArray := prog_1_method_12_code
def yX10_count : MethodName := ⟨RX10, "count", "(I)I"⟩
abbrev cX10_entry : ByteArray := prog_1_method_13_code
def yX10_entry : MethodName := ⟨RX10, "entry", "(II)I"⟩
abbrev cX10_then : ByteArray := prog_1_method_14_code
def yX10_then : MethodName := ⟨RX10, "then", "(II)I"⟩
abbrev cX10_back : ByteArray := prog_1_method_15_code
def yX10_back : MethodName := ⟨RX10, "back", "(I)I"⟩
abbrev cX10_image : ByteArray := prog_1_method_16_code
def yX10_image : MethodName := ⟨RX10, "image", "(II)I"⟩
abbrev cX10_kind : ByteArray := prog_1_method_17_code
def yX10_kind : MethodName := ⟨RX10, "kind", "(I)I"⟩
abbrev cX10_own : ByteArray := prog_1_method_18_code
def yX10_own : MethodName := ⟨RX10, "own", "(II)J"⟩
abbrev cX10_fixed : ByteArray := prog_1_method_19_code
def yX10_fixed : MethodName := ⟨RX10, "fixed", "(II)I"⟩
abbrev cX10_order : ByteArray := prog_1_method_20_code
def yX10_order : MethodName := ⟨RX10, "order", "(II)I"⟩
abbrev cX10_seed : ByteArray := prog_1_method_21_code
def yX10_seed : MethodName := ⟨RX10, "seed", "(I)I"⟩
abbrev cX10_group : ByteArray := prog_1_method_22_code
def yX10_group : MethodName := ⟨RX10, "group", "(I)I"⟩
abbrev cX10_element : ByteArray := prog_1_method_23_code
def yX10_element : MethodName := ⟨RX10, "element", "(II)I"⟩
abbrev cX10_among : ByteArray := prog_1_method_24_code
def yX10_among : MethodName := ⟨RX10, "among", "(I)I"⟩
abbrev cX10_beyond : ByteArray := prog_1_method_25_code
def yX10_beyond : MethodName := ⟨RX10, "beyond", "(JJ)Z"⟩
abbrev cX10_keepTriple : ByteArray := prog_1_method_26_code
def yX10_keepTriple : MethodName := ⟨RX10, "keepTriple", "(IIII)I"⟩
abbrev cX10_keepGiven : ByteArray := prog_1_method_27_code
def yX10_keepGiven : MethodName := ⟨RX10, "keepGiven", "(I[J)I"⟩
abbrev cX10_keepObject : ByteArray := prog_1_method_28_code
def yX10_keepObject : MethodName := ⟨RX10, "keepObject", "(I[J)I"⟩
abbrev cX10_keepMap : ByteArray := prog_1_method_29_code
def yX10_keepMap : MethodName := ⟨RX10, "keepMap", "([J)I"⟩
abbrev cX10_crossRatio : ByteArray := prog_1_method_30_code
def yX10_crossRatio : MethodName := ⟨RX10, "crossRatio", "(I)J"⟩
def RX11 : String := "TransformRowsModel"
def TX11 : u_T := fun k => match k with
  | 0 => ("TransformRowsModel", "sorts", "[I", true)
  | 1 => ("TransformRowsModel", "rows", "[I", true)
  | 2 => ("TransformRowsModel", "objects", "I", false)
  | 3 => ("TransformRowsModel", "tables", "[I", true)
  | 4 => ("TransformRowsModel", "maps", "I", false)
  | 5 => ("TransformRowsModel", "given", "[I", true)
  | 6 => ("TransformRowsModel", "givens", "I", false)
  | 7 => ("TransformRowsModel", "seeds", "[I", true)
  | 8 => ("TransformRowsModel", "seedCount", "I", false)
  | 9 => ("TransformRowsModel", "group", "[I", true)
  | 10 => ("TransformRowsModel", "groupSize", "I", false)
  | 11 => ("TransformRowsModel", "row", "[J", true)
  | 12 => ("TransformRowsModel", "table", "[J", true)
  | 13 => ("TransformRowsModel", "one", "[J", true)
  | 14 => ("TransformRowsModel", "two", "[J", true)
  | 15 => ("TransformRowsModel", "p", "J", false)
  | 16 => ("TransformRowsModel", "above", "J", false)
  | _ => ("TransformRowsModel", "below", "J", false)
def tyX11 : Nat → FieldType := fun k => match k with
  | 0 => .array .int
  | 1 => .array .int
  | 2 => .int
  | 3 => .array .int
  | 4 => .int
  | 5 => .array .int
  | 6 => .int
  | 7 => .array .int
  | 8 => .int
  | 9 => .array .int
  | 10 => .int
  | 11 => .array .long
  | 12 => .array .long
  | 13 => .array .long
  | 14 => .array .long
  | 15 => .long
  | 16 => .long
  | _ => .long
theorem nmX11 : ∀ a, a < 18 → ∀ b, b < 18 → a ≠ b → (TX11 a).2.1 ≠ (TX11 b).2.1 := by decide +kernel
theorem tyX11_ok : ∀ k, k < 18 → parseFieldDescriptor (TX11 k).2.2.1 = some (tyX11 k) := by decide +kernel
abbrev cX11_init : ByteArray := prog_13_method_1_code
def yX11_init : MethodName := ⟨RX11, "<init>", "()V"⟩
abbrev cX11_gcd : ByteArray := prog_13_method_2_code
def yX11_gcd : MethodName := ⟨RX11, "gcd", "(JJ)J"⟩
abbrev cX11_least : ByteArray := prog_13_method_3_code
def yX11_least : MethodName := ⟨RX11, "least", "([JI)Z"⟩
abbrev cX11_isSort : ByteArray := prog_13_method_4_code
def yX11_isSort : MethodName := ⟨RX11, "isSort", "(II)Z"⟩
abbrev cX11_at : ByteArray := prog_13_method_5_code
def yX11_at : MethodName := ⟨RX11, "at", "(II)J"⟩
abbrev cX11_object : ByteArray := prog_13_method_6_code
def yX11_object : MethodName := ⟨RX11, "object", "(I)I"⟩
abbrev cX11_in : ByteArray := prog_13_method_7_code
def yX11_in : MethodName := ⟨RX11, "in", "(JJJ)Z"⟩
abbrev cX11_three : ByteArray := prog_13_method_8_code
def yX11_three : MethodName := ⟨RX11, "three", "(IIII)I"⟩
abbrev cX11_point : ByteArray := prog_13_method_9_code
def yX11_point : MethodName := ⟨RX11, "point", "(III)I"⟩
abbrev cX11_line : ByteArray := prog_13_method_10_code
def yX11_line : MethodName := ⟨RX11, "line", "(III)I"⟩
abbrev cX11_conic : ByteArray := prog_13_method_11_code
def yX11_conic : MethodName := ⟨RX11, "conic", "(IIIIII)I"⟩
abbrev cX11_number : ByteArray := prog_13_method_12_code
def yX11_number : MethodName := ⟨RX11, "number", "(II)I"⟩
abbrev cX11_crossOf : ByteArray := prog_13_method_13_code
def yX11_crossOf : MethodName := ⟨RX11, "crossOf", "(II)V"⟩
abbrev cX11_join : ByteArray := prog_13_method_14_code
def yX11_join : MethodName := ⟨RX11, "join", "(II)I"⟩
abbrev cX11_dot : ByteArray := prog_13_method_15_code
def yX11_dot : MethodName := ⟨RX11, "dot", "(II)J"⟩
abbrev cX11_on : ByteArray := prog_13_method_16_code
def yX11_on : MethodName := ⟨RX11, "on", "(II)I"⟩
abbrev cX11_shape : ByteArray := prog_13_method_17_code
def yX11_shape : MethodName := ⟨RX11, "shape", "(I)I"⟩
abbrev cX11_part : ByteArray := prog_13_method_18_code
def yX11_part : MethodName := ⟨RX11, "part", "(III)J"⟩
abbrev cX11_areInLine : ByteArray := prog_13_method_19_code
def yX11_areInLine : MethodName := ⟨RX11, "areInLine", "(III)Z"⟩
abbrev cX11_cross : ByteArray := prog_13_method_20_code
def yX11_cross : MethodName := ⟨RX11, "cross", "(IIIII)J"⟩
abbrev cX11_isMap : ByteArray := prog_13_method_21_code
def yX11_isMap : MethodName := ⟨RX11, "isMap", "(I)Z"⟩
abbrev cX11_bring : ByteArray := prog_13_method_22_code
def yX11_bring : MethodName := ⟨RX11, "bring", "(I[J)V"⟩
abbrev cX11_det : ByteArray := prog_13_method_23_code
def yX11_det : MethodName := ⟨RX11, "det", "([J)J"⟩
abbrev cX11_turnBack : ByteArray := prog_13_method_24_code
def yX11_turnBack : MethodName := ⟨RX11, "turnBack", "([J[J)V"⟩
abbrev cX11_times : ByteArray := prog_13_method_25_code
def yX11_times : MethodName := ⟨RX11, "times", "([J[J[J)V"⟩
abbrev cX11_map : ByteArray := prog_13_method_26_code
def yX11_map : MethodName := ⟨RX11, "map", "()I"⟩
abbrev cX11_give : ByteArray := prog_13_method_27_code
def yX11_give : MethodName := ⟨RX11, "give", "(I)I"⟩
abbrev cX11_areGiven : ByteArray := prog_13_method_28_code
def yX11_areGiven : MethodName := ⟨RX11, "areGiven", "(II)Z"⟩
abbrev cX11_isFar : ByteArray := prog_13_method_29_code
def yX11_isFar : MethodName := ⟨RX11, "isFar", "(I)Z"⟩
abbrev cX11_set : ByteArray := prog_13_method_30_code
def yX11_set : MethodName := ⟨RX11, "set", "(JJJJJJ)V"⟩
abbrev cX11_mirror : ByteArray := prog_13_method_31_code
def yX11_mirror : MethodName := ⟨RX11, "mirror", "()Z"⟩
abbrev cX11_simple : ByteArray := prog_13_method_32_code
def yX11_simple : MethodName := ⟨RX11, "simple", "(IJJ)Z"⟩
abbrev cX11_glide : ByteArray := prog_13_method_33_code
def yX11_glide : MethodName := ⟨RX11, "glide", "(JJ)Z"⟩
abbrev cX11_any : ByteArray := prog_13_method_34_code
def yX11_any : MethodName := ⟨RX11, "any", "()Z"⟩
abbrev cX11_mod : ByteArray := prog_13_method_35_code
def yX11_mod : MethodName := ⟨RX11, "mod", "(J)J"⟩
abbrev cX11_inverse : ByteArray := prog_13_method_36_code
def yX11_inverse : MethodName := ⟨RX11, "inverse", "(J)J"⟩
abbrev cX11_turned : ByteArray := prog_13_method_37_code
def yX11_turned : MethodName := ⟨RX11, "turned", "(III)J"⟩
abbrev cX11_share : ByteArray := prog_13_method_38_code
def yX11_share : MethodName := ⟨RX11, "share", "(II)J"⟩
abbrev cX11_projective : ByteArray := prog_13_method_39_code
def yX11_projective : MethodName := ⟨RX11, "projective", "()V"⟩
abbrev cX11_affine : ByteArray := prog_13_method_40_code
def yX11_affine : MethodName := ⟨RX11, "affine", "()V"⟩
abbrev cX11_place : ByteArray := prog_13_method_41_code
def yX11_place : MethodName := ⟨RX11, "place", "(II)J"⟩
abbrev cX11_likeness : ByteArray := prog_13_method_42_code
def yX11_likeness : MethodName := ⟨RX11, "likeness", "()V"⟩
abbrev cX11_small : ByteArray := prog_13_method_43_code
def yX11_small : MethodName := ⟨RX11, "small", "(J)Z"⟩
abbrev cX11_tellBack : ByteArray := prog_13_method_44_code
def yX11_tellBack : MethodName := ⟨RX11, "tellBack", "()Z"⟩
abbrev cX11_takes : ByteArray := prog_13_method_45_code
def yX11_takes : MethodName := ⟨RX11, "takes", "(II)Z"⟩
abbrev cX11_isTried : ByteArray := prog_13_method_46_code
def yX11_isTried : MethodName := ⟨RX11, "isTried", "(II)Z"⟩
abbrev cX11_mayBe : ByteArray := prog_13_method_47_code
def yX11_mayBe : MethodName := ⟨RX11, "mayBe", "(I)Z"⟩
abbrev cX11_byPoints : ByteArray := prog_13_method_48_code
def yX11_byPoints : MethodName := ⟨RX11, "byPoints", "(I)I"⟩
abbrev cX11_make : ByteArray := prog_13_method_49_code
def yX11_make : MethodName := ⟨RX11, "make", "(III)I"⟩
abbrev cX11_count : ByteArray := prog_13_method_50_code
def yX11_count : MethodName := ⟨RX11, "count", "(I)I"⟩
abbrev cX11_entry : ByteArray := prog_13_method_51_code
def yX11_entry : MethodName := ⟨RX11, "entry", "(II)I"⟩
abbrev cX11_then : ByteArray := prog_13_method_52_code
def yX11_then : MethodName := ⟨RX11, "then", "(II)I"⟩
abbrev cX11_back : ByteArray := prog_13_method_53_code
def yX11_back : MethodName := ⟨RX11, "back", "(I)I"⟩
abbrev cX11_image : ByteArray := prog_13_method_54_code
def yX11_image : MethodName := ⟨RX11, "image", "(II)I"⟩
abbrev cX11_conicImage : ByteArray := prog_13_method_55_code
def yX11_conicImage : MethodName := ⟨RX11, "conicImage", "(I)V"⟩
abbrev cX11_isAll : ByteArray := prog_13_method_56_code
def yX11_isAll : MethodName := ⟨RX11, "isAll", "([J)Z"⟩
abbrev cX11_rank : ByteArray := prog_13_method_57_code
def yX11_rank : MethodName := ⟨RX11, "rank", "([JJ)I"⟩
abbrev cX11_isTwiceAll : ByteArray := prog_13_method_58_code
def yX11_isTwiceAll : MethodName := ⟨RX11, "isTwiceAll", "([J)Z"⟩
abbrev cX11_kind : ByteArray := prog_13_method_59_code
def yX11_kind : MethodName := ⟨RX11, "kind", "(I)I"⟩
abbrev cX11_flatKind : ByteArray := prog_13_method_60_code
def yX11_flatKind : MethodName := ⟨RX11, "flatKind", "()I"⟩
abbrev cX11_farKind : ByteArray := prog_13_method_61_code
def yX11_farKind : MethodName := ⟨RX11, "farKind", "()I"⟩
abbrev cX11_value : ByteArray := prog_13_method_62_code
def yX11_value : MethodName := ⟨RX11, "value", "(I)J"⟩
abbrev cX11_own : ByteArray := prog_13_method_63_code
def yX11_own : MethodName := ⟨RX11, "own", "(II)J"⟩
abbrev cX11_fixed : ByteArray := prog_13_method_64_code
def yX11_fixed : MethodName := ⟨RX11, "fixed", "(II)I"⟩
abbrev cX11_order : ByteArray := prog_13_method_65_code
def yX11_order : MethodName := ⟨RX11, "order", "(II)I"⟩
abbrev cX11_seed : ByteArray := prog_13_method_66_code
def yX11_seed : MethodName := ⟨RX11, "seed", "(I)I"⟩
abbrev cX11_find : ByteArray := prog_13_method_67_code
def yX11_find : MethodName := ⟨RX11, "find", "()I"⟩
abbrev cX11_group : ByteArray := prog_13_method_68_code
def yX11_group : MethodName := ⟨RX11, "group", "(I)I"⟩
abbrev cX11_element : ByteArray := prog_13_method_69_code
def yX11_element : MethodName := ⟨RX11, "element", "(II)I"⟩
abbrev cX11_among : ByteArray := prog_13_method_70_code
def yX11_among : MethodName := ⟨RX11, "among", "(I)I"⟩
def RJ9 : String := "java/lang/Math"
def TJ9 : u_T := fun k => match k with
  | _ => ("", "", "", false)
def tyJ9 : Nat → FieldType := fun k => match k with
  | _ => .int
theorem nmJ9 : ∀ a, a < 0 → ∀ b, b < 0 → a ≠ b → (TJ9 a).2.1 ≠ (TJ9 b).2.1 := by decide +kernel
theorem tyJ9_ok : ∀ k, k < 0 → parseFieldDescriptor (TJ9 k).2.2.1 = some (tyJ9 k) := by decide +kernel
abbrev cJ9_abs_067f4 : ByteArray := prog_14_method_61_code
def yJ9_abs_067f4 : MethodName := ⟨RJ9, "abs", "(J)J"⟩
abbrev cJ9_max_f86c9 : ByteArray := prog_14_method_66_code
def yJ9_max_f86c9 : MethodName := ⟨RJ9, "max", "(JJ)J"⟩
abbrev cJ9_min_7cf53 : ByteArray := prog_14_method_69_code
def yJ9_min_7cf53 : MethodName := ⟨RJ9, "min", "(II)I"⟩
abbrev cJ9_min_f86c9 : ByteArray := prog_14_method_70_code
def yJ9_min_f86c9 : MethodName := ⟨RJ9, "min", "(JJ)J"⟩
def RJ10 : String := "java/lang/System"
def TJ10 : u_T := fun k => match k with
  | _ => ("", "", "", false)
def tyJ10 : Nat → FieldType := fun k => match k with
  | _ => .int
theorem nmJ10 : ∀ a, a < 0 → ∀ b, b < 0 → a ≠ b → (TJ10 a).2.1 ≠ (TJ10 b).2.1 := by decide +kernel
theorem tyJ10_ok : ∀ k, k < 0 → parseFieldDescriptor (TJ10 k).2.2.1 = some (tyJ10 k) := by decide +kernel
def RL : String := "TransformRowsLaw"
abbrev cL_law : ByteArray := code
def yL_law : MethodName := ⟨RL, "law", "([I)Z"⟩
abbrev vwCl : List vw_C := [(RX0, TX0, 4), (RX1, TX1, 4), (RX4, TX4, 3), (RX5, TX5, 7), (RX6, TX6, 6), (RX8, TX8, 4), (RX10, TX10, 17), (RX11, TX11, 18)]
/-- the instructions of a method, as its code decodes, one behind another -/
def xwf (cc : ByteArray) : List xI → Bool
  | [] => true
  | (pc, ins, len) :: cs => decide (decode cc pc = .ok (ins, len)) && (match cs with | [] => true | (pc2, _, _) :: _ => decide (pc2 = pc + len)) && xwf cc cs
def xlen (ins : Instr) : Nat := match ins with
  | .bipush _ => 2
  | .iload _ => 2
  | .lload _ => 2
  | .aload _ => 2
  | .istore _ => 2
  | .lstore _ => 2
  | .astore _ => 2
  | .newarray _ => 2
  | .sipush _ => 3
  | .ldc2_w _ => 3
  | .getfield _ => 3
  | .putfield _ => 3
  | .invokevirtual _ => 3
  | .invokestatic _ => 3
  | .invokespecial _ => 3
  | .ifCond _ _ => 3
  | .if_icmp _ _ => 3
  | .goto _ => 3
  | .iinc _ _ => 3
  | .new _ => 3
  | .multianewarray _ _ => 4
  | _ => 1
def xlok (i : xI) : Bool := match i.2.1 with
  | .tableswitch .. => true
  | .lookupswitch .. => true
  | .ifCond _ off => Nat.beq i.2.2 3 && decide (0 ≤ (i.1 : Int) + off)
  | .if_icmp _ off => Nat.beq i.2.2 3 && decide (0 ≤ (i.1 : Int) + off)
  | ins => Nat.beq i.2.2 (xlen ins)
/-- a suffix of a method's instructions -/
def xsf (cc : ByteArray) (cs : List xI) : Prop := xwf cc cs = true ∧ cs.all xlok = true
end
section
/-! THE ENGINE: a symbolic run of a stretch of bytecode as one reduction; its soundness over the machine ('W') once and for all. A cell of the world is named by its place in a list. -/
abbrev xE : Type := vp_A ⊕ (Nat × List Value)
def xv (ad : Nat → Nat) (v : Value) : Value := match v with
  | .ref k => .ref (ad k)
  | w => w
def xq (ad : Nat → Nat) (f : Nat → Option Nat) : Nat → Option Nat := fun i => (f i).map ad
def xe (ad : Nat → Nat) (kI kJ kQ : ClassId) (e : xE) : va_E := match e with
  | .inl (n, .inl f) => .inl (kI, n, .inl f)
  | .inl (n, .inr (.inl f)) => .inl (kJ, n, .inr (.inl f))
  | .inl (n, .inr (.inr (.inl f))) => .inl (kI, n, .inr (.inr (.inl f)))
  | .inl (n, .inr (.inr (.inr (.inl f)))) => .inl (kI, n, .inr (.inr (.inr (.inl f))))
  | .inl (n, .inr (.inr (.inr (.inr f)))) => .inl (kQ, n, .inr (.inr (.inr (.inr (xq ad f)))))
  | .inr (ci, fs) => .inr (ci, fs.map (xv ad))
def xw (ad : Nat → Nat) (kI kJ kQ : ClassId) (G : List xE) : va_W := G.mapIdx (fun k e => (ad k, xe ad kI kJ kQ e))
theorem xw_get {ad : Nat → Nat} {kI kJ kQ : ClassId} {G : List xE} {k : Nat} : (xw ad kI kJ kQ G)[k]? = (G[k]?).map (fun e => (ad k, xe ad kI kJ kQ e)) := by
  simp [xw]
theorem xw_at {ad : Nat → Nat} {kI kJ kQ : ClassId} {G : List xE} {k : Nat} {e : xE} (h : G[k]? = some e) : (xw ad kI kJ kQ G)[k]? = some (ad k, xe ad kI kJ kQ e) := by
  rw [xw_get, h]; rfl
theorem xw_len {ad : Nat → Nat} {kI kJ kQ : ClassId} {G : List xE} : (xw ad kI kJ kQ G).length = G.length := by simp [xw]
theorem xw_set {ad : Nat → Nat} {kI kJ kQ : ClassId} {G : List xE} {k : Nat} {e : xE} : (xw ad kI kJ kQ G).set k (ad k, xe ad kI kJ kQ e) = xw ad kI kJ kQ (G.set k e) := by
  apply List.ext_getElem?
  intro j
  rw [xw_get, List.getElem?_set, List.getElem?_set, xw_len, xw_get]
  by_cases h : k = j
  · subst h
    by_cases h2 : k < G.length
    · simp [h2]
    · simp [h2]
  · simp [h]
theorem xv_cat (ad : Nat → Nat) (v : Value) : (xv ad v).category = v.category := by cases v <;> rfl
/-- element by place -/
def xnth {α : Type} : List α → Nat → Option α
  | [], _ => none
  | a :: _, 0 => some a
  | _ :: t, n + 1 => xnth t n
theorem xnth_eq {α : Type} : ∀ (l : List α) (n : Nat), xnth l n = l[n]?
  | [], n => by simp [xnth]
  | a :: t, 0 => by simp [xnth]
  | a :: t, n + 1 => by simp [xnth, xnth_eq t n]
/-- a list with one element set, handed on -/
def xset {α : Type} (v : α) : List α → Nat → (List α → Prop) → Prop
  | [], _, _ => False
  | _ :: t, 0, K => K (v :: t)
  | h :: t, n + 1, K => xset v t n (fun t' => K (h :: t'))
theorem xset_ok {α : Type} (v : α) : ∀ (l : List α) (n : Nat) (K : List α → Prop), xset v l n K → n < l.length ∧ K (l.set n v)
  | [], n, K, h => h.elim
  | a :: t, 0, K, h => ⟨by simp, h⟩
  | a :: t, n + 1, K, h => by
    obtain ⟨h1, h2⟩ := xset_ok v t n (fun t' => K (a :: t')) h
    exact ⟨by simp; omega, h2⟩
def xfind {β : Type} : List (Nat × β) → Nat → Option β
  | [], _ => none
  | (k, b) :: t, n => cond (Nat.beq k n) (some b) (xfind t n)
theorem xfind_mem {β : Type} : ∀ (l : List (Nat × β)) (n : Nat) (b : β), xfind l n = some b → (n, b) ∈ l
  | [], n, b, h => by simp [xfind] at h
  | (k, b') :: t, n, b, h => by
    unfold xfind at h
    cases hk : Nat.beq k n with
    | true =>
      rw [hk] at h
      have hb : b' = b := Option.some.inj h
      rw [Nat.eq_of_beq_eq_true hk, hb]
      exact List.mem_cons_self
    | false =>
      rw [hk] at h
      exact List.mem_cons_of_mem _ (xfind_mem t n b h)
/-- locals -/
def xL (ad : Nat → Nat) (nL : Nat) (lv : List (Option Value)) (ls : Array Slot) : Prop := ls.size = nL ∧ lv_wf ls ∧ lv.length = nL ∧ ∀ (i : Nat) (v : Value), lv[i]? = some (some v) → ls[i]? = some (.val (xv ad v))
def xlp (ad : Nat → Nat) (lv : List (Option Value)) : List (Nat × Value) := (List.range lv.length).filterMap (fun i => ((lv[i]?).join).map (fun v => (i, xv ad v)))
theorem xlp_mem {ad : Nat → Nat} {lv : List (Option Value)} {q : Nat × Value} : q ∈ xlp ad lv ↔ ∃ v, lv[q.1]? = some (some v) ∧ q.2 = xv ad v := by
  unfold xlp
  rw [List.mem_filterMap]
  constructor
  · rintro ⟨i, -, h⟩
    cases hj : lv[i]? with
    | none => rw [hj] at h; cases h
    | some o =>
      rw [hj] at h
      cases o with
      | none => cases h
      | some v =>
        cases h
        exact ⟨v, hj, rfl⟩
  · rintro ⟨v, h1, h2⟩
    refine ⟨q.1, List.mem_range.mpr (List.getElem?_eq_some_iff.mp h1).1, ?_⟩
    rw [h1]
    simp [← h2]
theorem xL.has {ad : Nat → Nat} {nL : Nat} {lv : List (Option Value)} {ls : Array Slot} (h : xL ad nL lv ls) : lv_has ls nL (xlp ad lv) := by
  refine ⟨h.1, h.2.1, fun q hq => ?_⟩
  obtain ⟨v, h1, h2⟩ := xlp_mem.mp hq
  rw [h2]
  exact h.2.2.2 _ _ h1
def xcl (o : Option Value) (K : Option Value → Prop) : Prop := match o with
  | none => K none
  | some w => cond (Nat.beq w.category 2) (K none) (K (some w))
/-- a value stored into the locals -/
def xst (v : Value) : List (Option Value) → Nat → (List (Option Value) → Prop) → Prop
  | [], _, _ => False
  | _ :: t, 0, K => cond (Nat.beq v.category 2) (match t with | [] => False | _ :: t2 => K (some v :: none :: t2)) (K (some v :: t))
  | o :: t, 1, K => xcl o (fun o' => xst v t 0 (fun t' => K (o' :: t')))
  | o :: t, n + 2, K => xst v t (n + 1) (fun t' => K (o :: t'))
def xstP (v : Value) (i : Nat) (lv lv' : List (Option Value)) : Prop := lv'.length = lv.length ∧ i < lv.length ∧ (v.category = 2 → i + 1 < lv.length) ∧ ∀ (j : Nat) (w : Value), lv'[j]? = some (some w) → (j = i ∧ w = v) ∨ (lv[j]? = some (some w) ∧ j ≠ i ∧ ¬ (v.category = 2 ∧ j = i + 1) ∧ ¬ (j + 1 = i ∧ w.category = 2))
theorem xst_ok0 (v : Value) (o : Option Value) (t : List (Option Value)) (K : List (Option Value) → Prop) (h : xst v (o :: t) 0 K) : ∃ lv', K lv' ∧ xstP v 0 (o :: t) lv' := by
  unfold xst at h
  rcases lv_cat v with hc | hc
  · rw [hc] at h
    refine ⟨_, h, rfl, by simp, fun h9 => by omega, fun j w hj => ?_⟩
    cases j with
    | zero => simp at hj; exact Or.inl ⟨rfl, hj.symm⟩
    | succ j => simp at hj; exact Or.inr ⟨by simpa using hj, by omega, by omega, by omega⟩
  · rw [hc] at h
    cases t with
    | nil => exact h.elim
    | cons b t =>
      refine ⟨_, h, rfl, by simp, fun h9 => by simp, fun j w hj => ?_⟩
      cases j with
      | zero => simp at hj; exact Or.inl ⟨rfl, hj.symm⟩
      | succ j =>
        cases j with
        | zero => simp at hj
        | succ j => simp at hj; exact Or.inr ⟨by simpa using hj, by omega, by omega, by omega⟩
theorem xst_ok (v : Value) : ∀ (lv : List (Option Value)) (i : Nat) (K : List (Option Value) → Prop), xst v lv i K → ∃ lv', K lv' ∧ xstP v i lv lv'
  | [], _, _, h => by simp [xst] at h
  | o :: t, 0, K, h => xst_ok0 v o t K h
  | o :: t, 1, K, h => by
    unfold xst at h
    have key : ∀ o' : Option Value, (∀ w, o' = some w → o = some w ∧ ¬ w.category = 2) → xst v t 0 (fun t' => K (o' :: t')) → ∃ lv', K lv' ∧ xstP v 1 (o :: t) lv' := by
      intro o' ho h
      obtain ⟨t', h1, h2, h3, h4, h5⟩ := xst_ok v t 0 _ h
      refine ⟨_, h1, by simp [h2], by simp; omega, fun h9 => by simp; have := h4 h9; omega, fun j w hj => ?_⟩
      cases j with
      | zero =>
        simp at hj
        obtain ⟨h6, h7⟩ := ho w hj
        exact Or.inr ⟨by simp [h6], by omega, by omega, fun h => h7 h.2⟩
      | succ j =>
        simp at hj
        rcases h5 j w hj with ⟨h6, h7⟩ | ⟨h6, h7, h8, h9⟩
        · exact Or.inl ⟨by omega, h7⟩
        · exact Or.inr ⟨by simpa using h6, by omega, fun hh => h8 ⟨hh.1, by omega⟩, fun hh => by omega⟩
    unfold xcl at h
    cases o with
    | none => exact key none (fun w h9 => by cases h9) h
    | some w =>
      dsimp only at h
      rcases lv_cat w with hc | hc
      · rw [hc] at h
        exact key (some w) (fun w2 h9 => by cases h9; exact ⟨rfl, by omega⟩) h
      · rw [hc] at h
        exact key none (fun w h9 => by cases h9) h
  | o :: t, n + 2, K, h => by
    unfold xst at h
    obtain ⟨t', h1, h2, h3, h4, h5⟩ := xst_ok v t (n + 1) _ h
    refine ⟨_, h1, by simp [h2], by simp; omega, fun h9 => by simp; have := h4 h9; omega, fun j w hj => ?_⟩
    cases j with
    | zero =>
      simp at hj
      exact Or.inr ⟨by simp [hj], by omega, by omega, by omega⟩
    | succ j =>
      simp at hj
      rcases h5 j w hj with ⟨h6, h7⟩ | ⟨h6, h7, h8, h9⟩
      · exact Or.inl ⟨by omega, h7⟩
      · exact Or.inr ⟨by simpa using h6, by omega, fun hh => h8 ⟨hh.1, by omega⟩, fun hh => h9 ⟨by omega, hh.2⟩⟩
theorem xL_put1 {ad : Nat → Nat} {nL i : Nat} {v : Value} {lv lv' : List (Option Value)} {ls' : Array Slot} (hc : v.category = 1) (hp : xstP v i lv lv') (hn : lv.length = nL) (h : lv_has ls' nL ((i, xv ad v) :: (xlp ad lv).filter (fun q => !(q.1 == i) && !(q.1 + 1 == i && q.2.category == 2)))) : xL ad nL lv' ls' := by
  refine ⟨h.1, h.2.1, hp.1.trans hn, fun j w hj => ?_⟩
  rcases hp.2.2.2 j w hj with ⟨rfl, rfl⟩ | ⟨h1, h2, h3, h4⟩
  · exact h.2.2 (_, _) List.mem_cons_self
  · refine h.2.2 (j, xv ad w) (List.mem_cons_of_mem _ (List.mem_filter.mpr ⟨xlp_mem.mpr ⟨w, h1, rfl⟩, ?_⟩))
    simp only [xv_cat, Bool.and_eq_true, Bool.not_eq_true', beq_eq_false_iff_ne, ne_eq, Bool.and_eq_false_iff]
    refine ⟨h2, ?_⟩
    by_cases h5 : j + 1 = i
    · exact Or.inr (fun h6 => h4 ⟨h5, h6⟩)
    · exact Or.inl h5
theorem xL_put2 {ad : Nat → Nat} {nL i : Nat} {v : Value} {lv lv' : List (Option Value)} {ls' : Array Slot} (hc : v.category = 2) (hp : xstP v i lv lv') (hn : lv.length = nL) (h : lv_has ls' nL ((i, xv ad v) :: (xlp ad lv).filter (fun q => !(q.1 == i) && (!(q.1 == i + 1) && !(q.1 + 1 == i && q.2.category == 2))))) : xL ad nL lv' ls' := by
  refine ⟨h.1, h.2.1, hp.1.trans hn, fun j w hj => ?_⟩
  rcases hp.2.2.2 j w hj with ⟨rfl, rfl⟩ | ⟨h1, h2, h3, h4⟩
  · exact h.2.2 (_, _) List.mem_cons_self
  · refine h.2.2 (j, xv ad w) (List.mem_cons_of_mem _ (List.mem_filter.mpr ⟨xlp_mem.mpr ⟨w, h1, rfl⟩, ?_⟩))
    simp only [xv_cat, Bool.and_eq_true, Bool.not_eq_true', beq_eq_false_iff_ne, ne_eq, Bool.and_eq_false_iff]
    refine ⟨h2, fun h9 => h3 ⟨hc, h9⟩, ?_⟩
    by_cases h5 : j + 1 = i
    · exact Or.inr (fun h6 => h4 ⟨h5, h6⟩)
    · exact Or.inl h5
end
section
/-! the tables' words that every method may use, and those of nest mates -/
def xT : List Cond := lw_tbl.filter goodWord
theorem xT_of {w : Cond} (h : w ∈ lw_tbl) (g : goodWord w = true) : w ∈ xT := List.mem_filter.mpr ⟨h, g⟩
theorem xT_at {w : Cond} (i : Nat) (h : tables_1[i]? = some w) (g : goodWord w = true) : w ∈ xT := xT_of (List.mem_append_right _ (List.mem_of_getElem? h)) g
theorem xT_priv {y : MethodName} {n : Nat} (i : Nat) (h : lw_privs[i]? = some (y, n)) : Cond.selects y.cls y y ∈ xT := by
  refine xT_of (List.mem_append_left _ ?_) rfl
  exact List.mem_map.mpr ⟨(y, n), List.mem_of_getElem? h, rfl⟩
def xnest (w : Cond) : Bool := match w with
  | .fieldLinkNest .. => true
  | .methodLinkNest .. => true
  | _ => false
def xN (U : State) : Prop := ∀ w ∈ tables_1, xnest w = true → va_Nw w U
theorem xN.warm {s U : State} (hW : s.WarmedH U.vm) (h : xN s) : xN U := by
  intro w hw hn
  have h1 := h w hw hn
  cases w <;> first | (exact va_Nw.warmF hW h1) | (exact va_Nw.warmM hW h1) | (cases hn)
theorem xN.same {u U : State} (hv : u.vm = U.vm) (h : xN u) : xN U := by
  intro w hw hn
  refine va_Nw.same ?_ hv (h w hw hn)
  cases w <;> first | rfl | (cases hn)
def xty (kI kJ kQ : ClassId) : List (ClassId × FieldType) := [(kI, .int), (kJ, .long), (kQ, .array .long)]
/-- what holds of a method's frame all along -/
def xS (p : Program) (s : State) (m : MethodId) (args : Array Value) (c : Code) (dC : Nat → ClassId) (dI : Nat → Nat → Nat) (kI kJ kQ : ClassId) (own : String) (cc : ByteArray) (nL : Nat) : Prop :=
  p.tables.exec = Jvm.exec ∧ c.code = cc ∧ c.maxLocals = nL ∧ s.vm.findClass own = some m.cls ∧ (∀ w ∈ xT, w.before args s = true) ∧ va_K (dC, dI) vwCl (xty kI kJ kQ) s ∧ xN s
/-- the machine, from this point on, comes to its end; the world is given by places -/
def xW (p : Program) (l : Launch) (e : Env) (R : Room) (s : State) (m : MethodId) (args : Array Value) (below : List Frame) (meth : Method) (c : Code) (Q : State → Prop) (dC : Nat → ClassId) (dI : Nat → Nat → Nat) (ad : Nat → Nat) (kI kJ kQ : ClassId) (A : Nat → Prop) (H0 : Heap) (nL cells slots : Nat) (pc : Nat) (lv : List (Option Value)) (st : List Value) (G : List xE) : Prop :=
  ∀ (H : Heap) (locs : List Loc) (ls : Array Slot), va_P (dC, dI) vwCl (xw ad kI kJ kQ G) H → va_D A (xw ad kI kJ kQ G) → va_S A H0 H locs → xL ad nL lv ls → W p l e R s m args below meth c H locs cells slots Q (F0 m pc ls (st.map (xv ad)))
/-- which fields a class file's entries name: entry, class, place, how it may be written (1 int, 2 long) -/
abbrev xF : Type := Nat × Nat × Nat × Nat
def xFok (own : String) (q : xF) : Prop := ∃ (C : String) (T : u_T) (N : Nat) (ty0 : Nat → FieldType), vwCl[q.2.1]? = some (C, T, N) ∧ q.2.2.1 < N ∧ (∀ w ∈ u_ws C T N, w ∈ xT) ∧ (∀ k, k < N → parseFieldDescriptor (T k).2.2.1 = some (ty0 k)) ∧ (∀ a, a < N → ∀ b, b < N → a ≠ b → (T a).2.1 ≠ (T b).2.1) ∧ (T q.2.2.1).1 = C ∧
  (Cond.fieldLink own q.1 C (T q.2.2.1).2.1 (T q.2.2.1).2.2.1 ∈ xT ∨ ∃ host, Cond.fieldLinkNest own q.1 C (T q.2.2.1).2.1 (T q.2.2.1).2.2.1 host ∈ tables_1) ∧
  (q.2.2.2 = 1 → (T q.2.2.1).2.2.2 = false ∧ ty0 q.2.2.1 = .int) ∧ (q.2.2.2 = 2 → (T q.2.2.1).2.2.2 = false ∧ ty0 q.2.2.1 = .long) ∧ (q.2.2.2 ≠ 0 → Cond.fieldLink own q.1 C (T q.2.2.1).2.1 (T q.2.2.1).2.2.1 ∈ xT)
abbrev xH : Type := List Value → List xE → (List Value → List xE → Prop) → Prop
def xin (i : Int32) (n : Nat) : Bool := (!decide (i < 0)) && decide (i.toNatClampNeg < n)
theorem xin_ok {i : Int32} {n : Nat} (h : xin i n = true) : vp_in i n := by
  unfold xin at h
  simp only [Bool.and_eq_true, Bool.not_eq_true', decide_eq_false_iff_not, decide_eq_true_eq] at h
  rintro (h1 | h1)
  · exact h.1 h1
  · omega
def xnar (ret : Option FieldType) (x : Int32) : Bool := match ret with
  | some .int => true
  | some .boolean => decide (narrow .boolean (.int x) = .int x)
  | _ => false
def xjmp (code : List xI) (t : Int) : List xI := match code with
  | [] => []
  | i :: cs => cond (decide ((i.1 : Int) = t)) (i :: cs) (xjmp cs t)
/-- a jump; out of the list: a stop -/
def xto (code : List xI) (t : Int) (K : Nat → Prop) (go : List xI → Prop) : Prop := match xjmp code t with
  | [] => cond (decide (((t.toNat : Nat) : Int) = t)) (K t.toNat) False
  | i :: cs => go (i :: cs)
def xldi (lv : List (Option Value)) (i : Nat) (K : Int32 → Prop) : Prop := match xnth lv i with
  | some (some (.int x)) => K x
  | _ => False
def xldl (lv : List (Option Value)) (i : Nat) (K : Int64 → Prop) : Prop := match xnth lv i with
  | some (some (.long x)) => K x
  | _ => False
def xlda (lv : List (Option Value)) (i : Nat) (K : Nat → Prop) : Prop := match xnth lv i with
  | some (some (.ref x)) => K x
  | _ => False
def xcmp (cnd : ClassFile.Cond) (x y : Int32) (A B : Prop) : Prop := match cnd with
  | .eq => cond (decide (x = y)) A B
  | .ne => cond (decide (x = y)) B A
  | .lt => cond (decide (x < y)) A B
  | .ge => cond (decide (y ≤ x)) A B
  | .gt => cond (decide (y < x)) A B
  | .le => cond (decide (x ≤ y)) A B
def xone (v : Value) : Bool := Nat.beq v.category 1
/-- one instruction -/
def xstep (code : List xI) (ft : List xF) (ct : List (Nat × Int64)) (oc : List (Nat × xH)) (ret : Option FieldType) (post : Option Value → List xE → Prop) (K : Nat → List (Option Value) → List Value → List xE → Prop) (go : List xI → List (Option Value) → List Value → List xE → Prop) (pc : Nat) (ins : Instr) (cs : List xI) (lv : List (Option Value)) (st : List Value) (G : List xE) : Prop := match ins with
  | .iconst i => go cs lv (.int (Int32.ofInt i) :: st) G
  | .bipush i => go cs lv (.int (Int8.ofInt i).toInt32 :: st) G
  | .sipush i => go cs lv (.int (Int16.ofInt i).toInt32 :: st) G
  | .lconst n => go cs lv (.long (Int64.ofNat n.val) :: st) G
  | .ldc2_w ix => (match xfind ct ix with | some v => go cs lv (.long v :: st) G | none => False)
  | .iload i => xldi lv i (fun x => go cs lv (.int x :: st) G)
  | .iload_n i => xldi lv i.val (fun x => go cs lv (.int x :: st) G)
  | .lload i => xldl lv i (fun x => go cs lv (.long x :: st) G)
  | .lload_n i => xldl lv i.val (fun x => go cs lv (.long x :: st) G)
  | .aload i => xlda lv i (fun x => go cs lv (.ref x :: st) G)
  | .aload_n i => xlda lv i.val (fun x => go cs lv (.ref x :: st) G)
  | .istore i => (match st with | .int x :: r => xst (.int x) lv i (fun lv => go cs lv r G) | _ => False)
  | .istore_n i => (match st with | .int x :: r => xst (.int x) lv i.val (fun lv => go cs lv r G) | _ => False)
  | .lstore i => (match st with | .long x :: r => xst (.long x) lv i (fun lv => go cs lv r G) | _ => False)
  | .lstore_n i => (match st with | .long x :: r => xst (.long x) lv i.val (fun lv => go cs lv r G) | _ => False)
  | .astore i => (match st with | .ref x :: r => xst (.ref x) lv i (fun lv => go cs lv r G) | _ => False)
  | .astore_n i => (match st with | .ref x :: r => xst (.ref x) lv i.val (fun lv => go cs lv r G) | _ => False)
  | .iinc i k => xldi lv i (fun x => xst (.int (x + Int32.ofInt k)) lv i (fun lv => go cs lv st G))
  | .iadd => (match st with | .int y :: .int x :: r => go cs lv (.int (x + y) :: r) G | _ => False)
  | .isub => (match st with | .int y :: .int x :: r => go cs lv (.int (x - y) :: r) G | _ => False)
  | .imul => (match st with | .int y :: .int x :: r => go cs lv (.int (x * y) :: r) G | _ => False)
  | .iand => (match st with | .int y :: .int x :: r => go cs lv (.int (x &&& y) :: r) G | _ => False)
  | .idiv => (match st with | .int y :: .int x :: r => cond (decide (y = 0)) False (go cs lv (.int (x / y) :: r) G) | _ => False)
  | .irem => (match st with | .int y :: .int x :: r => cond (decide (y = 0)) False (go cs lv (.int (x - x / y * y) :: r) G) | _ => False)
  | .ladd => (match st with | .long y :: .long x :: r => go cs lv (.long (x + y) :: r) G | _ => False)
  | .lsub => (match st with | .long y :: .long x :: r => go cs lv (.long (x - y) :: r) G | _ => False)
  | .lmul => (match st with | .long y :: .long x :: r => go cs lv (.long (x * y) :: r) G | _ => False)
  | .land => (match st with | .long y :: .long x :: r => go cs lv (.long (x &&& y) :: r) G | _ => False)
  | .ldiv => (match st with | .long y :: .long x :: r => cond (decide (y = 0)) False (go cs lv (.long (x / y) :: r) G) | _ => False)
  | .lrem => (match st with | .long y :: .long x :: r => cond (decide (y = 0)) False (go cs lv (.long (x - x / y * y) :: r) G) | _ => False)
  | .lneg => (match st with | .long x :: r => go cs lv (.long (-x) :: r) G | _ => False)
  | .lshr => (match st with | .int y :: .long x :: r => go cs lv (.long (x >>> (y.toInt64 &&& 63)) :: r) G | _ => False)
  | .lcmp => (match st with | .long y :: .long x :: r => go cs lv (.int (lg_cmp x y) :: r) G | _ => False)
  | .i2l => (match st with | .int x :: r => go cs lv (.long x.toInt64 :: r) G | _ => False)
  | .l2i => (match st with | .long x :: r => go cs lv (.int x.toInt32 :: r) G | _ => False)
  | .dup => (match st with | v :: r => cond (xone v) (go cs lv (v :: v :: r) G) False | _ => False)
  | .pop => (match st with | v :: r => cond (xone v) (go cs lv r G) False | _ => False)
  | .dup2 => (match st with | v :: w :: r => cond (xone v && xone w) (go cs lv (v :: w :: v :: w :: r) G) False | _ => False)
  | .ifCond cnd off => (match st with | .int x :: r => xcmp cnd x 0 (xto code ((pc : Int) + off) (fun t => K t lv r G) (fun cs => go cs lv r G)) (go cs lv r G) | _ => False)
  | .if_icmp cnd off => (match st with | .int y :: .int x :: r => xcmp cnd x y (xto code ((pc : Int) + off) (fun t => K t lv r G) (fun cs => go cs lv r G)) (go cs lv r G) | _ => False)
  | .goto off => xto code ((pc : Int) + off) (fun t => K t lv st G) (fun cs => go cs lv st G)
  | .getfield ix => (match st with
    | .ref k :: r => (match xfind ft ix with
      | some (ci, j, _) => (match xnth G k with
        | some (.inr (ci2, fs)) => cond (Nat.beq ci2 ci) (match xnth fs j with | some v => go cs lv (v :: r) G | none => False) False
        | _ => False)
      | none => False)
    | _ => False)
  | .putfield ix => (match st with
    | .int x :: .ref k :: r => (match xfind ft ix with
      | some (ci, j, 1) => (match xnth G k with
        | some (.inr (ci2, fs)) => cond (Nat.beq ci2 ci) (xset (.int x) fs j (fun fs => xset (.inr (ci2, fs)) G k (fun G => go cs lv r G))) False
        | _ => False)
      | _ => False)
    | .long x :: .ref k :: r => (match xfind ft ix with
      | some (ci, j, 2) => (match xnth G k with
        | some (.inr (ci2, fs)) => cond (Nat.beq ci2 ci) (xset (.long x) fs j (fun fs => xset (.inr (ci2, fs)) G k (fun G => go cs lv r G))) False
        | _ => False)
      | _ => False)
    | _ => False)
  | .iaload => (match st with
    | .int i :: .ref k :: r => (match xnth G k with
      | some (.inl (n, .inl f)) => cond (xin i n) (go cs lv (.int (f i.toNatClampNeg) :: r) G) False
      | _ => False)
    | _ => False)
  | .laload => (match st with
    | .int i :: .ref k :: r => (match xnth G k with
      | some (.inl (n, .inr (.inl f))) => cond (xin i n) (go cs lv (.long (f i.toNatClampNeg) :: r) G) False
      | _ => False)
    | _ => False)
  | .aaload => (match st with
    | .int i :: .ref k :: r => (match xnth G k with
      | some (.inl (n, .inr (.inr (.inr (.inr f))))) => cond (xin i n) (match f i.toNatClampNeg with | some q => go cs lv (.ref q :: r) G | none => False) False
      | _ => False)
    | _ => False)
  | .iastore => (match st with
    | .int x :: .int i :: .ref k :: r => (match xnth G k with
      | some (.inl (n, .inl f)) => cond (xin i n) (xset (.inl (n, .inl (upd f i.toNatClampNeg x))) G k (fun G => go cs lv r G)) False
      | _ => False)
    | _ => False)
  | .lastore => (match st with
    | .long x :: .int i :: .ref k :: r => (match xnth G k with
      | some (.inl (n, .inr (.inl f))) => cond (xin i n) (xset (.inl (n, .inr (.inl (vp_updL f i.toNatClampNeg x)))) G k (fun G => go cs lv r G)) False
      | _ => False)
    | _ => False)
  | .arraylength => (match st with
    | .ref k :: r => (match xnth G k with
      | some (.inl (n, .inl _)) => go cs lv (.int (Int32.ofNat n) :: r) G
      | some (.inl (n, .inr (.inl _))) => go cs lv (.int (Int32.ofNat n) :: r) G
      | _ => False)
    | _ => False)
  | .invokevirtual ix => (match xfind oc ix with | some h => h st G (fun st G => go cs lv st G) | none => K pc lv st G)
  | .invokestatic ix => (match xfind oc ix with | some h => h st G (fun st G => go cs lv st G) | none => K pc lv st G)
  | .ireturn => (match st with | [.int x] => cond (xnar ret x) (post (some (.int x)) G) False | _ => False)
  | .lreturn => (match st with | [.long x] => (match ret with | some .long => post (some (.long x)) G | _ => False) | _ => False)
  | .return_ => (match st with | [] => (match ret with | none => post none G | _ => False) | _ => False)
  | _ => K pc lv st G
/-- a stretch of at most n instructions; it stops at the places bp, and at what it can't do -/
def xex (code : List xI) (ft : List xF) (ct : List (Nat × Int64)) (oc : List (Nat × xH)) (ret : Option FieldType) (post : Option Value → List xE → Prop) (K : Nat → List (Option Value) → List Value → List xE → Prop) (bp : List Nat) : Nat → Bool → List xI → List (Option Value) → List Value → List xE → Prop
  | _, _, [], _, _, _ => False
  | 0, _, i :: _, lv, st, G => K i.1 lv st G
  | n + 1, fr, (pc, ins, _) :: cs, lv, st, G => cond (fr && bp.any (fun b => Nat.beq b pc)) (K pc lv st G) (xstep code ft ct oc ret post K (xex code ft ct oc ret post K bp n true) pc ins cs lv st G)
end
section
/-! the executor is sound -/
theorem xsf.tail {cc : ByteArray} {i : xI} {cs : List xI} (h : xsf cc (i :: cs)) : xsf cc cs := by
  obtain ⟨h1, h2⟩ := h
  obtain ⟨pc, ins, len⟩ := i
  unfold xwf at h1
  simp only [Bool.and_eq_true] at h1
  simp only [List.all_cons, Bool.and_eq_true] at h2
  exact ⟨h1.2, h2.2⟩
theorem xsf.dec {cc : ByteArray} {pc len : Nat} {ins : Instr} {cs : List xI} (h : xsf cc ((pc, ins, len) :: cs)) : decode cc pc = .ok (ins, len) := by
  obtain ⟨h1, h2⟩ := h
  unfold xwf at h1
  simp only [Bool.and_eq_true, decide_eq_true_eq] at h1
  exact h1.1.1
theorem xsf.len {cc : ByteArray} {pc len : Nat} {ins : Instr} {cs : List xI} (h : xsf cc ((pc, ins, len) :: cs)) : xlok (pc, ins, len) = true := by
  obtain ⟨h1, h2⟩ := h
  simp only [List.all_cons, Bool.and_eq_true] at h2
  exact h2.1
theorem xsf.next {cc : ByteArray} {pc len : Nat} {ins : Instr} {i : xI} {cs : List xI} (h : xsf cc ((pc, ins, len) :: i :: cs)) : i.1 = pc + len := by
  obtain ⟨h1, h2⟩ := h
  unfold xwf at h1
  simp only [Bool.and_eq_true, decide_eq_true_eq] at h1
  exact h1.1.2
theorem xsf.jmp {cc : ByteArray} {t : Int} : ∀ (cs : List xI), xsf cc cs → xsf cc (xjmp cs t) ∧ ∀ i r, xjmp cs t = i :: r → (i.1 : Int) = t
  | [], h => ⟨h, fun i r h => by simp [xjmp] at h⟩
  | i :: cs, h => by
    unfold xjmp
    by_cases hd : (i.1 : Int) = t
    · simp only [hd, decide_true, cond_true]
      exact ⟨h, fun i' r h' => by cases h'; exact hd⟩
    · simp only [hd, decide_false, cond_false]
      exact xsf.jmp cs h.tail
theorem xcmp_of {cnd : ClassFile.Cond} {x y : Int32} {A B : Prop} (h : xcmp cnd x y A B) : (match cnd with
    | .eq => (x = y → A) ∧ (¬ x = y → B)
    | .ne => (¬ x = y → A) ∧ (x = y → B)
    | .lt => (x < y → A) ∧ (¬ x < y → B)
    | .ge => (y ≤ x → A) ∧ (¬ y ≤ x → B)
    | .gt => (y < x → A) ∧ (¬ y < x → B)
    | .le => (x ≤ y → A) ∧ (¬ x ≤ y → B)) := by
  cases cnd <;> simp only [xcmp] at h <;> refine ⟨fun q => ?_, fun q => ?_⟩ <;> simpa [q] using h
section XSND
variable {p : Program} {l : Launch} {e : Env} {R : Room} {s : State} {m : MethodId} {args : Array Value} {below : List Frame} {meth : Method} {c : Code} {Q : State → Prop} {dC : Nat → ClassId} {dI : Nat → Nat → Nat} {ad : Nat → Nat} {kI kJ kQ : ClassId} {A : Nat → Prop} {H0 : Heap} {nL cells slots : Nat} {own : String} {cc : ByteArray}
/-- the machine at the head of a suffix -/
def xWs (p : Program) (l : Launch) (e : Env) (R : Room) (s : State) (m : MethodId) (args : Array Value) (below : List Frame) (meth : Method) (c : Code) (Q : State → Prop) (dC : Nat → ClassId) (dI : Nat → Nat → Nat) (ad : Nat → Nat) (kI kJ kQ : ClassId) (A : Nat → Prop) (H0 : Heap) (nL cells slots : Nat) (cs : List xI) (lv : List (Option Value)) (st : List Value) (G : List xE) : Prop :=
  ∃ i r, cs = i :: r ∧ xW p l e R s m args below meth c Q dC dI ad kI kJ kQ A H0 nL cells slots i.1 lv st G
/-- a call that the run knows: from behind it to before it -/
def xHk (p : Program) (l : Launch) (e : Env) (R : Room) (s : State) (m : MethodId) (args : Array Value) (below : List Frame) (meth : Method) (c : Code) (Q : State → Prop) (dC : Nat → ClassId) (dI : Nat → Nat → Nat) (ad : Nat → Nat) (kI kJ kQ : ClassId) (A : Nat → Prop) (H0 : Heap) (nL cells slots : Nat) (cc : ByteArray) (q : Nat × xH) : Prop :=
  ∀ (pc : Nat) (lv : List (Option Value)) (st : List Value) (G : List xE) (K : List Value → List xE → Prop), (decode cc pc = .ok (.invokevirtual q.1, 3) ∨ decode cc pc = .ok (.invokestatic q.1, 3)) →
    (∀ st G, K st G → xW p l e R s m args below meth c Q dC dI ad kI kJ kQ A H0 nL cells slots (pc + 3) lv st G) → q.2 st G K → xW p l e R s m args below meth c Q dC dI ad kI kJ kQ A H0 nL cells slots pc lv st G
theorem xW_load {pc n : Nat} {lv : List (Option Value)} {st : List Value} {G : List xE} {i : Nat} {v : Value} (h : xnth lv i = some (some v))
    (k : ∀ (H : Heap) (locs : List Loc) (ls : Array Slot), ls[i]? = some (.val (xv ad v)) → W p l e R s m args below meth c H locs cells slots Q (F0 m (pc + n) ls (xv ad v :: st.map (xv ad))) → W p l e R s m args below meth c H locs cells slots Q (F0 m pc ls (st.map (xv ad))))
    (hn : xW p l e R s m args below meth c Q dC dI ad kI kJ kQ A H0 nL cells slots (pc + n) lv (v :: st) G) : xW p l e R s m args below meth c Q dC dI ad kI kJ kQ A H0 nL cells slots pc lv st G := by
  intro H locs ls hP hD hS hL
  rw [xnth_eq] at h
  exact k H locs ls (hL.2.2.2 i v h) (hn H locs ls hP hD hS hL)
theorem xW_store1 {pc n : Nat} {lv : List (Option Value)} {st st2 : List Value} {G : List xE} {i : Nat} {v : Value} {K : List (Option Value) → Prop} (hc : v.category = 1)
    (h : xst v lv i K)
    (k : ∀ (H : Heap) (locs : List Loc) (ls : Array Slot), lv_has ls nL (xlp ad lv) → i < nL → (∀ ls' : Array Slot, lv_has ls' nL ((i, xv ad v) :: (xlp ad lv).filter (fun q => !(q.1 == i) && !(q.1 + 1 == i && q.2.category == 2))) → W p l e R s m args below meth c H locs cells slots Q (F0 m (pc + n) ls' (st.map (xv ad)))) → W p l e R s m args below meth c H locs cells slots Q (F0 m pc ls (st2.map (xv ad))))
    (hn : ∀ lv', K lv' → xW p l e R s m args below meth c Q dC dI ad kI kJ kQ A H0 nL cells slots (pc + n) lv' st G) : xW p l e R s m args below meth c Q dC dI ad kI kJ kQ A H0 nL cells slots pc lv st2 G := by
  intro H locs ls hP hD hS hL
  obtain ⟨lv', h1, h2⟩ := xst_ok v lv i K h
  refine k H locs ls hL.has (by have := h2.2.1; have := hL.2.2.1; omega) (fun ls' h9 => ?_)
  exact hn lv' h1 H locs ls' hP hD hS (xL_put1 hc h2 hL.2.2.1 h9)
theorem xW_store2 {pc n : Nat} {lv : List (Option Value)} {st st2 : List Value} {G : List xE} {i : Nat} {v : Value} {K : List (Option Value) → Prop} (hc : v.category = 2)
    (h : xst v lv i K)
    (k : ∀ (H : Heap) (locs : List Loc) (ls : Array Slot), lv_has ls nL (xlp ad lv) → i + 1 < nL → (∀ ls' : Array Slot, lv_has ls' nL ((i, xv ad v) :: (xlp ad lv).filter (fun q => !(q.1 == i) && (!(q.1 == i + 1) && !(q.1 + 1 == i && q.2.category == 2)))) → W p l e R s m args below meth c H locs cells slots Q (F0 m (pc + n) ls' (st.map (xv ad)))) → W p l e R s m args below meth c H locs cells slots Q (F0 m pc ls (st2.map (xv ad))))
    (hn : ∀ lv', K lv' → xW p l e R s m args below meth c Q dC dI ad kI kJ kQ A H0 nL cells slots (pc + n) lv' st G) : xW p l e R s m args below meth c Q dC dI ad kI kJ kQ A H0 nL cells slots pc lv st2 G := by
  intro H locs ls hP hD hS hL
  obtain ⟨lv', h1, h2⟩ := xst_ok v lv i K h
  refine k H locs ls hL.has (by have := h2.2.2.1 hc; have := hL.2.2.1; omega) (fun ls' h9 => ?_)
  exact hn lv' h1 H locs ls' hP hD hS (xL_put2 hc h2 hL.2.2.1 h9)
set_option maxHeartbeats 4000000 in
theorem xstep_ok {code : List xI} {ft : List xF} {ct : List (Nat × Int64)} {oc : List (Nat × xH)} {ret : Option FieldType} {post : Option Value → List xE → Prop} {K : Nat → List (Option Value) → List Value → List xE → Prop} {go : List xI → List (Option Value) → List Value → List xE → Prop} {pc len : Nat} {ins : Instr} {cs : List xI} {lv : List (Option Value)} {st : List Value} {G : List xE}
    (hS : xS p s m args c dC dI kI kJ kQ own cc nL) (hft : ∀ q ∈ ft, xFok own q) (hct : ∀ q ∈ ct, Cond.constantLong own q.1 q.2 ∈ xT) (hoc : ∀ q ∈ oc, xHk p l e R s m args below meth c Q dC dI ad kI kJ kQ A H0 nL cells slots cc q)
    (hcode : xsf cc code) (hcs : xsf cc ((pc, ins, len) :: cs)) (hgo : ∀ cs lv st G, xsf cc cs → go cs lv st G → xWs p l e R s m args below meth c Q dC dI ad kI kJ kQ A H0 nL cells slots cs lv st G)
    (hK : ∀ pc lv st G, K pc lv st G → xW p l e R s m args below meth c Q dC dI ad kI kJ kQ A H0 nL cells slots pc lv st G)
    (hI : ∀ pc lv x G, decode cc pc = .ok (.ireturn, 1) → xnar ret x = true → post (some (.int x)) G → xW p l e R s m args below meth c Q dC dI ad kI kJ kQ A H0 nL cells slots pc lv [.int x] G)
    (hJ : ∀ pc lv x G, decode cc pc = .ok (.lreturn, 1) → ret = some .long → post (some (.long x)) G → xW p l e R s m args below meth c Q dC dI ad kI kJ kQ A H0 nL cells slots pc lv [.long x] G)
    (hV : ∀ pc lv G, decode cc pc = .ok (.return_, 1) → ret = none → post none G → xW p l e R s m args below meth c Q dC dI ad kI kJ kQ A H0 nL cells slots pc lv [] G)
    (h : xstep code ft ct oc ret post K go pc ins cs lv st G) : xW p l e R s m args below meth c Q dC dI ad kI kJ kQ A H0 nL cells slots pc lv st G := by
  obtain ⟨hx, hb, hml, hown, hts, hKK, hN⟩ := hS
  have hdg := hcs.dec
  have hlen := hcs.len
  have hnx : ∀ lv st G, go cs lv st G → xW p l e R s m args below meth c Q dC dI ad kI kJ kQ A H0 nL cells slots (pc + len) lv st G := by
    intro lv st G hg
    obtain ⟨i, r, rfl, h2⟩ := hgo cs lv st G hcs.tail hg
    rw [← hcs.next]
    exact h2
  have hto : ∀ (t : Int) lv r G, xto code t (fun t => K t lv r G) (fun cs => go cs lv r G) → xW p l e R s m args below meth c Q dC dI ad kI kJ kQ A H0 nL cells slots t.toNat lv r G := by
    intro t lv r G hg
    unfold xto at hg
    obtain ⟨j1, j2⟩ := xsf.jmp (t := t) code hcode
    split at hg
    next hj =>
      by_cases hd : ((t.toNat : Nat) : Int) = t
      · simp only [hd, decide_true, cond_true] at hg
        exact hK _ _ _ _ hg
      · simp only [hd, decide_false, cond_false] at hg
    next i cs2 hj =>
      rw [hj] at j1 j2
      obtain ⟨i2, r2, e2, h2⟩ := hgo _ lv r G j1 hg
      cases e2
      have h3 := j2 i cs2 rfl
      rw [show t.toNat = i.1 by omega]
      exact h2
  cases ins
  case iconst i =>
    have hl : len = 1 := Nat.eq_of_beq_eq_true hlen
    subst hl
    intro H locs ls hP hD hS2 hL
    exact lv_iconst hx hb hdg rfl (hnx _ _ _ h H locs ls hP hD hS2 hL)
  case bipush i =>
    have hl : len = 2 := Nat.eq_of_beq_eq_true hlen
    subst hl
    intro H locs ls hP hD hS2 hL
    exact lv_bipush hx hb hdg rfl (hnx _ _ _ h H locs ls hP hD hS2 hL)
  case sipush i =>
    have hl : len = 3 := Nat.eq_of_beq_eq_true hlen
    subst hl
    intro H locs ls hP hD hS2 hL
    exact lv_sipush hx hb hdg rfl (hnx _ _ _ h H locs ls hP hD hS2 hL)
  case lconst i =>
    have hl : len = 1 := Nat.eq_of_beq_eq_true hlen
    subst hl
    intro H locs ls hP hD hS2 hL
    exact lv_lconst hx hb hdg rfl (hnx _ _ _ h H locs ls hP hD hS2 hL)
  case ldc2_w ix =>
    have hl : len = 3 := Nat.eq_of_beq_eq_true hlen
    subst hl
    simp only [xstep] at h
    split at h
    next v hv =>
      intro H locs ls hP hD hS2 hL
      exact lv_ldc2 hx hb hown (hts _ (hct _ (xfind_mem _ _ _ hv))) hdg (hnx _ _ _ h H locs ls hP hD hS2 hL)
    next => exact h.elim
  case iload i =>
    have hl : len = 2 := Nat.eq_of_beq_eq_true hlen
    subst hl
    simp only [xstep, xldi] at h
    split at h
    next x hv => exact xW_load hv (fun H locs ls h1 k => lv_iload hx hb hdg h1 k) (hnx _ _ _ h)
    next => exact h.elim
  case iload_n i =>
    have hl : len = 1 := Nat.eq_of_beq_eq_true hlen
    subst hl
    simp only [xstep, xldi] at h
    split at h
    next x hv => exact xW_load hv (fun H locs ls h1 k => lv_iload_n hx hb hdg rfl h1 k) (hnx _ _ _ h)
    next => exact h.elim
  case lload i =>
    have hl : len = 2 := Nat.eq_of_beq_eq_true hlen
    subst hl
    simp only [xstep, xldl] at h
    split at h
    next x hv => exact xW_load hv (fun H locs ls h1 k => lv_lload hx hb hdg h1 k) (hnx _ _ _ h)
    next => exact h.elim
  case lload_n i =>
    have hl : len = 1 := Nat.eq_of_beq_eq_true hlen
    subst hl
    simp only [xstep, xldl] at h
    split at h
    next x hv => exact xW_load hv (fun H locs ls h1 k => lv_lload_n hx hb hdg rfl h1 k) (hnx _ _ _ h)
    next => exact h.elim
  case aload i =>
    have hl : len = 2 := Nat.eq_of_beq_eq_true hlen
    subst hl
    simp only [xstep, xlda] at h
    split at h
    next x hv => exact xW_load hv (fun H locs ls h1 k => lv_aload hx hb hdg h1 k) (hnx _ _ _ h)
    next => exact h.elim
  case aload_n i =>
    have hl : len = 1 := Nat.eq_of_beq_eq_true hlen
    subst hl
    simp only [xstep, xlda] at h
    split at h
    next x hv => exact xW_load hv (fun H locs ls h1 k => lv_aload_n hx hb hdg rfl h1 k) (hnx _ _ _ h)
    next => exact h.elim
  case istore i =>
    have hl : len = 2 := Nat.eq_of_beq_eq_true hlen
    subst hl
    simp only [xstep] at h
    split at h
    next x r => exact xW_store1 rfl h (fun H locs ls h1 h2 k => lv_istore hx hb hdg h1 h2 rfl k) (fun lv' h => hnx _ _ _ h)
    next => exact h.elim
  case istore_n i =>
    have hl : len = 1 := Nat.eq_of_beq_eq_true hlen
    subst hl
    simp only [xstep] at h
    split at h
    next x r => exact xW_store1 rfl h (fun H locs ls h1 h2 k => lv_istore_n hx hb hdg rfl h1 h2 rfl k) (fun lv' h => hnx _ _ _ h)
    next => exact h.elim
  case lstore i =>
    have hl : len = 2 := Nat.eq_of_beq_eq_true hlen
    subst hl
    simp only [xstep] at h
    split at h
    next x r => exact xW_store2 rfl h (fun H locs ls h1 h2 k => lv_lstore hx hb hdg h1 h2 rfl k) (fun lv' h => hnx _ _ _ h)
    next => exact h.elim
  case lstore_n i =>
    have hl : len = 1 := Nat.eq_of_beq_eq_true hlen
    subst hl
    simp only [xstep] at h
    split at h
    next x r => exact xW_store2 rfl h (fun H locs ls h1 h2 k => lv_lstore_n hx hb hdg rfl h1 h2 rfl k) (fun lv' h => hnx _ _ _ h)
    next => exact h.elim
  case astore i =>
    have hl : len = 2 := Nat.eq_of_beq_eq_true hlen
    subst hl
    simp only [xstep] at h
    split at h
    next x r => exact xW_store1 rfl h (fun H locs ls h1 h2 k => lv_astore hx hb hdg h1 h2 rfl k) (fun lv' h => hnx _ _ _ h)
    next => exact h.elim
  case astore_n i =>
    have hl : len = 1 := Nat.eq_of_beq_eq_true hlen
    subst hl
    simp only [xstep] at h
    split at h
    next x r => exact xW_store1 rfl h (fun H locs ls h1 h2 k => lv_astore_n hx hb hdg rfl h1 h2 rfl k) (fun lv' h => hnx _ _ _ h)
    next => exact h.elim
  case iinc i n =>
    have hl : len = 3 := Nat.eq_of_beq_eq_true hlen
    subst hl
    simp only [xstep, xldi] at h
    split at h
    next x hv =>
      refine xW_store1 rfl h (fun H locs ls h1 h2 k => ?_) (fun lv' h => hnx _ _ _ h)
      have hm : (i, Value.int x) ∈ xlp ad lv := xlp_mem.mpr ⟨.int x, by rw [← xnth_eq]; exact hv, rfl⟩
      obtain ⟨q, hq⟩ := List.getElem?_of_mem hm
      exact lv_iinc hx hb hdg h1 hq rfl h2 rfl k
    next => exact h.elim
  case iadd =>
    have hl : len = 1 := Nat.eq_of_beq_eq_true hlen
    subst hl
    simp only [xstep] at h
    split at h
    next y x r =>
      intro H locs ls hP hD hS2 hL
      exact lv_iadd hx hb hdg (hnx _ _ _ h H locs ls hP hD hS2 hL)
    next => exact h.elim
  case isub =>
    have hl : len = 1 := Nat.eq_of_beq_eq_true hlen
    subst hl
    simp only [xstep] at h
    split at h
    next y x r =>
      intro H locs ls hP hD hS2 hL
      exact lv_isub hx hb hdg (hnx _ _ _ h H locs ls hP hD hS2 hL)
    next => exact h.elim
  case imul =>
    have hl : len = 1 := Nat.eq_of_beq_eq_true hlen
    subst hl
    simp only [xstep] at h
    split at h
    next y x r =>
      intro H locs ls hP hD hS2 hL
      exact lv_imul hx hb hdg (hnx _ _ _ h H locs ls hP hD hS2 hL)
    next => exact h.elim
  case iand =>
    have hl : len = 1 := Nat.eq_of_beq_eq_true hlen
    subst hl
    simp only [xstep] at h
    split at h
    next y x r =>
      intro H locs ls hP hD hS2 hL
      exact lv_iand hx hb hdg (hnx _ _ _ h H locs ls hP hD hS2 hL)
    next => exact h.elim
  case idiv =>
    have hl : len = 1 := Nat.eq_of_beq_eq_true hlen
    subst hl
    simp only [xstep] at h
    split at h
    next y x r =>
      by_cases hy : y = 0
      · simp [hy] at h
      · simp only [hy, decide_false, cond_false] at h
        intro H locs ls hP hD hS2 hL
        exact lv_idiv hx hb hdg hy (hnx _ _ _ h H locs ls hP hD hS2 hL)
    next => exact h.elim
  case irem =>
    have hl : len = 1 := Nat.eq_of_beq_eq_true hlen
    subst hl
    simp only [xstep] at h
    split at h
    next y x r =>
      by_cases hy : y = 0
      · simp [hy] at h
      · simp only [hy, decide_false, cond_false] at h
        intro H locs ls hP hD hS2 hL
        exact lv_irem hx hb hdg hy (hnx _ _ _ h H locs ls hP hD hS2 hL)
    next => exact h.elim
  case ladd =>
    have hl : len = 1 := Nat.eq_of_beq_eq_true hlen
    subst hl
    simp only [xstep] at h
    split at h
    next y x r =>
      intro H locs ls hP hD hS2 hL
      exact lv_ladd hx hb hdg (hnx _ _ _ h H locs ls hP hD hS2 hL)
    next => exact h.elim
  case lsub =>
    have hl : len = 1 := Nat.eq_of_beq_eq_true hlen
    subst hl
    simp only [xstep] at h
    split at h
    next y x r =>
      intro H locs ls hP hD hS2 hL
      exact lv_lsub hx hb hdg (hnx _ _ _ h H locs ls hP hD hS2 hL)
    next => exact h.elim
  case lmul =>
    have hl : len = 1 := Nat.eq_of_beq_eq_true hlen
    subst hl
    simp only [xstep] at h
    split at h
    next y x r =>
      intro H locs ls hP hD hS2 hL
      exact lv_lmul hx hb hdg (hnx _ _ _ h H locs ls hP hD hS2 hL)
    next => exact h.elim
  case land =>
    have hl : len = 1 := Nat.eq_of_beq_eq_true hlen
    subst hl
    simp only [xstep] at h
    split at h
    next y x r =>
      intro H locs ls hP hD hS2 hL
      exact lv_land hx hb hdg (hnx _ _ _ h H locs ls hP hD hS2 hL)
    next => exact h.elim
  case ldiv =>
    have hl : len = 1 := Nat.eq_of_beq_eq_true hlen
    subst hl
    simp only [xstep] at h
    split at h
    next y x r =>
      by_cases hy : y = 0
      · simp [hy] at h
      · simp only [hy, decide_false, cond_false] at h
        intro H locs ls hP hD hS2 hL
        exact lv_ldiv hx hb hdg hy (hnx _ _ _ h H locs ls hP hD hS2 hL)
    next => exact h.elim
  case lrem =>
    have hl : len = 1 := Nat.eq_of_beq_eq_true hlen
    subst hl
    simp only [xstep] at h
    split at h
    next y x r =>
      by_cases hy : y = 0
      · simp [hy] at h
      · simp only [hy, decide_false, cond_false] at h
        intro H locs ls hP hD hS2 hL
        exact lv_lrem hx hb hdg hy (hnx _ _ _ h H locs ls hP hD hS2 hL)
    next => exact h.elim
  case lneg =>
    have hl : len = 1 := Nat.eq_of_beq_eq_true hlen
    subst hl
    simp only [xstep] at h
    split at h
    next x r =>
      intro H locs ls hP hD hS2 hL
      exact lv_lneg hx hb hdg (hnx _ _ _ h H locs ls hP hD hS2 hL)
    next => exact h.elim
  case lshr =>
    have hl : len = 1 := Nat.eq_of_beq_eq_true hlen
    subst hl
    simp only [xstep] at h
    split at h
    next y x r =>
      intro H locs ls hP hD hS2 hL
      exact lv_lshr hx hb hdg rfl (hnx _ _ _ h H locs ls hP hD hS2 hL)
    next => exact h.elim
  case lcmp =>
    have hl : len = 1 := Nat.eq_of_beq_eq_true hlen
    subst hl
    simp only [xstep] at h
    split at h
    next y x r =>
      intro H locs ls hP hD hS2 hL
      exact W.lcmp hx hb hdg (hnx _ _ _ h H locs ls hP hD hS2 hL)
    next => exact h.elim
  case i2l =>
    have hl : len = 1 := Nat.eq_of_beq_eq_true hlen
    subst hl
    simp only [xstep] at h
    split at h
    next x r =>
      intro H locs ls hP hD hS2 hL
      exact lv_i2l hx hb hdg rfl (hnx _ _ _ h H locs ls hP hD hS2 hL)
    next => exact h.elim
  case l2i =>
    have hl : len = 1 := Nat.eq_of_beq_eq_true hlen
    subst hl
    simp only [xstep] at h
    split at h
    next x r =>
      intro H locs ls hP hD hS2 hL
      exact lv_l2i hx hb hdg rfl (hnx _ _ _ h H locs ls hP hD hS2 hL)
    next => exact h.elim
  case dup =>
    have hl : len = 1 := Nat.eq_of_beq_eq_true hlen
    subst hl
    simp only [xstep] at h
    split at h
    next v r =>
      cases hv : xone v with
      | false => rw [hv] at h; exact h.elim
      | true =>
        rw [hv] at h
        have hc : (xv ad v).category = 1 := by rw [xv_cat]; exact Nat.eq_of_beq_eq_true hv
        intro H locs ls hP hD hS2 hL
        exact lv_dup hx hb hdg hc (hnx _ _ _ h H locs ls hP hD hS2 hL)
    next => exact h.elim
  case pop =>
    have hl : len = 1 := Nat.eq_of_beq_eq_true hlen
    subst hl
    simp only [xstep] at h
    split at h
    next v r =>
      cases hv : xone v with
      | false => rw [hv] at h; exact h.elim
      | true =>
        rw [hv] at h
        have hc : (xv ad v).category = 1 := by rw [xv_cat]; exact Nat.eq_of_beq_eq_true hv
        intro H locs ls hP hD hS2 hL
        exact lv_pop hx hb hdg hc (hnx _ _ _ h H locs ls hP hD hS2 hL)
    next => exact h.elim
  case dup2 =>
    have hl : len = 1 := Nat.eq_of_beq_eq_true hlen
    subst hl
    simp only [xstep] at h
    split at h
    next v w r =>
      cases hv : (xone v && xone w) with
      | false => rw [hv] at h; exact h.elim
      | true =>
        rw [hv] at h
        simp only [Bool.and_eq_true] at hv
        have hc : (xv ad v).category = 1 := by rw [xv_cat]; exact Nat.eq_of_beq_eq_true hv.1
        have hc2 : (xv ad w).category = 1 := by rw [xv_cat]; exact Nat.eq_of_beq_eq_true hv.2
        intro H locs ls hP hD hS2 hL
        exact lv_dup2_11 hx hb hdg hc hc2 (hnx _ _ _ h H locs ls hP hD hS2 hL)
    next => exact h.elim
  case ifCond cnd off =>
    simp only [xlok, Bool.and_eq_true, decide_eq_true_eq] at hlen
    have hl : len = 3 := Nat.eq_of_beq_eq_true hlen.1
    subst hl
    have ht : (pc : Int) + off = ((((pc : Int) + off).toNat : Nat) : Int) := (Int.toNat_of_nonneg hlen.2).symm
    simp only [xstep] at h
    split at h
    next x r =>
      have h := xcmp_of h
      intro H locs ls hP hD hS2 hL
      cases cnd
      case eq => exact lv_if_eq hx hb hdg ht (fun q => hto _ _ _ _ (h.1 q) H locs ls hP hD hS2 hL) (fun q => hnx _ _ _ (h.2 q) H locs ls hP hD hS2 hL)
      case ne => exact lv_if_ne hx hb hdg ht (fun q => hto _ _ _ _ (h.1 q) H locs ls hP hD hS2 hL) (fun q => hnx _ _ _ (h.2 q) H locs ls hP hD hS2 hL)
      case lt => exact lv_if_lt hx hb hdg ht (fun q => hto _ _ _ _ (h.1 q) H locs ls hP hD hS2 hL) (fun q => hnx _ _ _ (h.2 q) H locs ls hP hD hS2 hL)
      case ge => exact lv_if_ge hx hb hdg ht (fun q => hto _ _ _ _ (h.1 q) H locs ls hP hD hS2 hL) (fun q => hnx _ _ _ (h.2 q) H locs ls hP hD hS2 hL)
      case gt => exact lv_if_gt hx hb hdg ht (fun q => hto _ _ _ _ (h.1 q) H locs ls hP hD hS2 hL) (fun q => hnx _ _ _ (h.2 q) H locs ls hP hD hS2 hL)
      case le => exact lv_if_le hx hb hdg ht (fun q => hto _ _ _ _ (h.1 q) H locs ls hP hD hS2 hL) (fun q => hnx _ _ _ (h.2 q) H locs ls hP hD hS2 hL)
    next => exact h.elim
  case if_icmp cnd off =>
    simp only [xlok, Bool.and_eq_true, decide_eq_true_eq] at hlen
    have hl : len = 3 := Nat.eq_of_beq_eq_true hlen.1
    subst hl
    have ht : (pc : Int) + off = ((((pc : Int) + off).toNat : Nat) : Int) := (Int.toNat_of_nonneg hlen.2).symm
    simp only [xstep] at h
    split at h
    next y x r =>
      have h := xcmp_of h
      intro H locs ls hP hD hS2 hL
      cases cnd
      case eq => exact lv_icmp_eq hx hb hdg ht (fun q => hto _ _ _ _ (h.1 q) H locs ls hP hD hS2 hL) (fun q => hnx _ _ _ (h.2 q) H locs ls hP hD hS2 hL)
      case ne => exact lv_icmp_ne hx hb hdg ht (fun q => hto _ _ _ _ (h.1 q) H locs ls hP hD hS2 hL) (fun q => hnx _ _ _ (h.2 q) H locs ls hP hD hS2 hL)
      case lt => exact lv_icmp_lt hx hb hdg ht (fun q => hto _ _ _ _ (h.1 q) H locs ls hP hD hS2 hL) (fun q => hnx _ _ _ (h.2 q) H locs ls hP hD hS2 hL)
      case ge => exact lv_icmp_ge hx hb hdg ht (fun q => hto _ _ _ _ (h.1 q) H locs ls hP hD hS2 hL) (fun q => hnx _ _ _ (h.2 q) H locs ls hP hD hS2 hL)
      case gt => exact lv_icmp_gt hx hb hdg ht (fun q => hto _ _ _ _ (h.1 q) H locs ls hP hD hS2 hL) (fun q => hnx _ _ _ (h.2 q) H locs ls hP hD hS2 hL)
      case le => exact lv_icmp_le hx hb hdg ht (fun q => hto _ _ _ _ (h.1 q) H locs ls hP hD hS2 hL) (fun q => hnx _ _ _ (h.2 q) H locs ls hP hD hS2 hL)
    next => exact h.elim
  case goto off =>
    have hl : len = 3 := Nat.eq_of_beq_eq_true hlen
    subst hl
    simp only [xstep] at h
    intro H locs ls hP hD hS2 hL
    have h0 := hto _ _ _ _ h H locs ls hP hD hS2 hL
    by_cases hn : 0 ≤ (pc : Int) + off
    · exact lv_goto hx hb hdg (Int.toNat_of_nonneg hn).symm h0
    · exfalso
      unfold xto at h
      obtain ⟨j1, j2⟩ := xsf.jmp (t := (pc : Int) + off) code hcode
      split at h
      next hj =>
        have hd : ¬ ((((pc : Int) + off).toNat : Nat) : Int) = (pc : Int) + off := by omega
        simp only [hd, decide_false, cond_false] at h
      next i cs2 hj =>
        have h3 := j2 i cs2 hj
        omega
  case getfield ix =>
    have hl : len = 3 := Nat.eq_of_beq_eq_true hlen
    subst hl
    simp only [xstep] at h
    split at h
    next k r =>
      split at h
      next ci j tg hf =>
        split at h
        next ci2 fs hG =>
          cases hb2 : Nat.beq ci2 ci with
          | false => rw [hb2] at h; exact h.elim
          | true =>
            rw [hb2] at h
            have e : ci2 = ci := Nat.eq_of_beq_eq_true hb2
            subst e
            simp only [cond_true] at h
            split at h
            next v hv =>
              obtain ⟨C, T, N, ty0, hc, hk, hin, hty, hnm, hcls, hlink, -⟩ := hft _ (xfind_mem _ _ _ hf)
              intro H locs ls hP hD hS2 hL
              have he : (xw ad kI kJ kQ G)[k]? = some (ad k, .inr (ci2, fs.map (xv ad))) := xw_at (by rw [← xnth_eq]; exact hG)
              have hv' : (fs.map (xv ad))[j]? = some (xv ad v) := by rw [List.getElem?_map, ← xnth_eq, hv]; rfl
              rcases hlink with hl | ⟨host, hl⟩
              · exact va_get (D := (dC, dI)) (cl := vwCl) hx hb hts hin hown hKK hP k he hc j hk (hts _ hl) (fun x h9 => by rw [hcls] at h9; exact h9) hv' hdg (hnx _ _ _ h H locs ls hP hD hS2 hL)
              · exact va_getN (D := (dC, dI)) (cl := vwCl) hx hb hts hin hown hKK hP k he hc j hk (va_Nw.use rfl (hN _ hl rfl)) (fun x h9 => by rw [hcls] at h9; exact h9) hv' hdg (hnx _ _ _ h H locs ls hP hD hS2 hL)
            next => exact h.elim
        next => exact h.elim
      next => exact h.elim
    next => exact h.elim
  case putfield ix =>
    have hl : len = 3 := Nat.eq_of_beq_eq_true hlen
    subst hl
    simp only [xstep] at h
    split at h
    next x k r =>
      split at h
      next ci j hf =>
        split at h
        next ci2 fs hG =>
          cases hb2 : Nat.beq ci2 ci with
          | false => rw [hb2] at h; exact h.elim
          | true =>
            rw [hb2] at h
            have e : ci2 = ci := Nat.eq_of_beq_eq_true hb2
            subst e
            simp only [cond_true] at h
            obtain ⟨h1, h2⟩ := xset_ok _ _ _ _ h
            obtain ⟨h3, h4⟩ := xset_ok _ _ _ _ h2
            obtain ⟨C, T, N, ty0, hc, hk, hin, hty, hnm, hcls, -, hw, -, hlk⟩ := hft _ (xfind_mem _ _ _ hf)
            obtain ⟨hw1, hw2⟩ := hw rfl
            have hl := hlk (by simp)
            intro H locs ls hP hD hS2 hL
            have he : (xw ad kI kJ kQ G)[k]? = some (ad k, .inr (ci2, fs.map (xv ad))) := xw_at (by rw [← xnth_eq]; exact hG)
            refine va_put (D := (dC, dI)) (cl := vwCl) (v := .int x) (ty := .int) hx hb hts hin ty0 hty hnm hown hKK hP hD hS2 k he hc j hk (hts _ hl) (fun x h9 => by rw [hcls] at h9; exact h9) hw1 (by rw [hty _ hk]; exact congrArg some hw2) rfl rfl (by simpa using h1) hdg (fun H1 locs1 hP1 hD1 hS1 => ?_)
            have ee : (xw ad kI kJ kQ G).set k (ad k, .inr (ci2, (fs.map (xv ad)).set j (.int x))) = xw ad kI kJ kQ (G.set k (.inr (ci2, fs.set j (.int x)))) := by
              rw [← xw_set]
              show _ = (xw ad kI kJ kQ G).set k (ad k, .inr (ci2, (fs.set j (.int x)).map (xv ad)))
              rw [List.map_set]; rfl
            rw [ee] at hP1 hD1
            exact hnx _ _ _ h4 H1 locs1 ls hP1 hD1 hS1 hL
        next => exact h.elim
      next => exact h.elim
    next x k r =>
      split at h
      next ci j hf =>
        split at h
        next ci2 fs hG =>
          cases hb2 : Nat.beq ci2 ci with
          | false => rw [hb2] at h; exact h.elim
          | true =>
            rw [hb2] at h
            have e : ci2 = ci := Nat.eq_of_beq_eq_true hb2
            subst e
            simp only [cond_true] at h
            obtain ⟨h1, h2⟩ := xset_ok _ _ _ _ h
            obtain ⟨h3, h4⟩ := xset_ok _ _ _ _ h2
            obtain ⟨C, T, N, ty0, hc, hk, hin, hty, hnm, hcls, -, -, hw, hlk⟩ := hft _ (xfind_mem _ _ _ hf)
            obtain ⟨hw1, hw2⟩ := hw rfl
            have hl := hlk (by simp)
            intro H locs ls hP hD hS2 hL
            have he : (xw ad kI kJ kQ G)[k]? = some (ad k, .inr (ci2, fs.map (xv ad))) := xw_at (by rw [← xnth_eq]; exact hG)
            refine va_put (D := (dC, dI)) (cl := vwCl) (v := .long x) (ty := .long) hx hb hts hin ty0 hty hnm hown hKK hP hD hS2 k he hc j hk (hts _ hl) (fun x h9 => by rw [hcls] at h9; exact h9) hw1 (by rw [hty _ hk]; exact congrArg some hw2) rfl rfl (by simpa using h1) hdg (fun H1 locs1 hP1 hD1 hS1 => ?_)
            have ee : (xw ad kI kJ kQ G).set k (ad k, .inr (ci2, (fs.map (xv ad)).set j (.long x))) = xw ad kI kJ kQ (G.set k (.inr (ci2, fs.set j (.long x)))) := by
              rw [← xw_set]
              show _ = (xw ad kI kJ kQ G).set k (ad k, .inr (ci2, (fs.set j (.long x)).map (xv ad)))
              rw [List.map_set]; rfl
            rw [ee] at hP1 hD1
            exact hnx _ _ _ h4 H1 locs1 ls hP1 hD1 hS1 hL
        next => exact h.elim
      next => exact h.elim
    next => exact h.elim
  case iaload =>
    have hl : len = 1 := Nat.eq_of_beq_eq_true hlen
    subst hl
    simp only [xstep] at h
    split at h
    next i k r =>
      split at h
      next n f hG =>
        cases hi : xin i n with
        | false => rw [hi] at h; exact h.elim
        | true =>
          rw [hi] at h
          intro H locs ls hP hD hS2 hL
          have he : (xw ad kI kJ kQ G)[k]? = some (ad k, .inl (kI, n, .inl f)) := xw_at (by rw [← xnth_eq]; exact hG)
          exact va_iald (D := (dC, dI)) (cl := vwCl) hx hb hKK hP k 0 he rfl (xin_ok hi) hdg (hnx _ _ _ h H locs ls hP hD hS2 hL)
      next => exact h.elim
    next => exact h.elim
  case laload =>
    have hl : len = 1 := Nat.eq_of_beq_eq_true hlen
    subst hl
    simp only [xstep] at h
    split at h
    next i k r =>
      split at h
      next n f hG =>
        cases hi : xin i n with
        | false => rw [hi] at h; exact h.elim
        | true =>
          rw [hi] at h
          intro H locs ls hP hD hS2 hL
          have he : (xw ad kI kJ kQ G)[k]? = some (ad k, .inl (kJ, n, .inr (.inl f))) := xw_at (by rw [← xnth_eq]; exact hG)
          exact va_lald (D := (dC, dI)) (cl := vwCl) hx hb hKK hP k 1 he rfl (xin_ok hi) hdg (hnx _ _ _ h H locs ls hP hD hS2 hL)
      next => exact h.elim
    next => exact h.elim
  case aaload =>
    have hl : len = 1 := Nat.eq_of_beq_eq_true hlen
    subst hl
    simp only [xstep] at h
    split at h
    next i k r =>
      split at h
      next n f hG =>
        cases hi : xin i n with
        | false => rw [hi] at h; exact h.elim
        | true =>
          rw [hi] at h
          simp only [cond_true] at h
          split at h
          next q hq =>
            intro H locs ls hP hD hS2 hL
            have he : (xw ad kI kJ kQ G)[k]? = some (ad k, .inl (kQ, n, .inr (.inr (.inr (.inr (xq ad f)))))) := xw_at (by rw [← xnth_eq]; exact hG)
            have hin := xin_ok hi
            have hlt : i.toNatClampNeg < n := Nat.not_le.mp fun q => hin (Or.inr q)
            have hv : va_rf (xq ad f i.toNatClampNeg) = .ref (ad q) := by simp [xq, hq, va_rf]
            have h1 := hnx _ _ _ h H locs ls hP hD hS2 hL
            exact W.aald (v := .ref (ad q)) (ty := .array .long) hx hb (hP k _ he) ((hKK.2 2 _ rfl).1 n (fun j => va_rf (xq ad f j))) rfl (fun q => by cases q) (by show ¬ (i < 0 ∨ (arrV _ _ _).slots.size ≤ _); rw [arrV_size]; exact hin) (by show (arrV _ _ _).slots[_]? = _; rw [arrV_read _ _ hlt, hv]) rfl rfl hdg h1
          next => exact h.elim
      next => exact h.elim
    next => exact h.elim
  case iastore =>
    have hl : len = 1 := Nat.eq_of_beq_eq_true hlen
    subst hl
    simp only [xstep] at h
    split at h
    next x i k r =>
      split at h
      next n f hG =>
        cases hi : xin i n with
        | false => rw [hi] at h; exact h.elim
        | true =>
          rw [hi] at h
          obtain ⟨h3, h4⟩ := xset_ok _ _ _ _ h
          intro H locs ls hP hD hS2 hL
          have he : (xw ad kI kJ kQ G)[k]? = some (ad k, .inl (kI, n, .inl f)) := xw_at (by rw [← xnth_eq]; exact hG)
          refine va_iast (D := (dC, dI)) (cl := vwCl) hx hb hKK hP hD hS2 k 0 he rfl (xin_ok hi) hdg (fun H1 locs1 hP1 hD1 hS1 => ?_)
          have ee : (xw ad kI kJ kQ G).set k (ad k, .inl (kI, n, .inl (upd f i.toNatClampNeg x))) = xw ad kI kJ kQ (G.set k (.inl (n, .inl (upd f i.toNatClampNeg x)))) := xw_set (e := .inl (n, .inl (upd f i.toNatClampNeg x)))
          rw [ee] at hP1 hD1
          exact hnx _ _ _ h4 H1 locs1 ls hP1 hD1 hS1 hL
      next => exact h.elim
    next => exact h.elim
  case lastore =>
    have hl : len = 1 := Nat.eq_of_beq_eq_true hlen
    subst hl
    simp only [xstep] at h
    split at h
    next x i k r =>
      split at h
      next n f hG =>
        cases hi : xin i n with
        | false => rw [hi] at h; exact h.elim
        | true =>
          rw [hi] at h
          obtain ⟨h3, h4⟩ := xset_ok _ _ _ _ h
          intro H locs ls hP hD hS2 hL
          have he : (xw ad kI kJ kQ G)[k]? = some (ad k, .inl (kJ, n, .inr (.inl f))) := xw_at (by rw [← xnth_eq]; exact hG)
          refine va_last (D := (dC, dI)) (cl := vwCl) hx hb hKK hP hD hS2 k 1 he rfl (xin_ok hi) hdg (fun H1 locs1 hP1 hD1 hS1 => ?_)
          have ee : (xw ad kI kJ kQ G).set k (ad k, .inl (kJ, n, .inr (.inl (vp_updL f i.toNatClampNeg x)))) = xw ad kI kJ kQ (G.set k (.inl (n, .inr (.inl (vp_updL f i.toNatClampNeg x))))) := xw_set (e := .inl (n, .inr (.inl (vp_updL f i.toNatClampNeg x))))
          rw [ee] at hP1 hD1
          exact hnx _ _ _ h4 H1 locs1 ls hP1 hD1 hS1 hL
      next => exact h.elim
    next => exact h.elim
  case arraylength =>
    have hl : len = 1 := Nat.eq_of_beq_eq_true hlen
    subst hl
    simp only [xstep] at h
    split at h
    next k r =>
      split at h
      next n f hG =>
        intro H locs ls hP hD hS2 hL
        have he : (xw ad kI kJ kQ G)[k]? = some (ad k, .inl (kI, n, .inl f)) := xw_at (by rw [← xnth_eq]; exact hG)
        exact va_alen (D := (dC, dI)) (cl := vwCl) hx hb hKK hP k 0 he rfl rfl hdg (hnx _ _ _ h H locs ls hP hD hS2 hL)
      next n f hG =>
        intro H locs ls hP hD hS2 hL
        have he : (xw ad kI kJ kQ G)[k]? = some (ad k, .inl (kJ, n, .inr (.inl f))) := xw_at (by rw [← xnth_eq]; exact hG)
        exact va_alen (D := (dC, dI)) (cl := vwCl) hx hb hKK hP k 1 he rfl rfl hdg (hnx _ _ _ h H locs ls hP hD hS2 hL)
      next => exact h.elim
    next => exact h.elim
  case invokevirtual ix =>
    have hl : len = 3 := Nat.eq_of_beq_eq_true hlen
    subst hl
    simp only [xstep] at h
    split at h
    next q hq => exact hoc _ (xfind_mem _ _ _ hq) pc lv st G _ (Or.inl hdg) (fun st G hk => hnx _ _ _ hk) h
    next => exact hK _ _ _ _ h
  case invokestatic ix =>
    have hl : len = 3 := Nat.eq_of_beq_eq_true hlen
    subst hl
    simp only [xstep] at h
    split at h
    next q hq => exact hoc _ (xfind_mem _ _ _ hq) pc lv st G _ (Or.inr hdg) (fun st G hk => hnx _ _ _ hk) h
    next => exact hK _ _ _ _ h
  case ireturn =>
    have hl : len = 1 := Nat.eq_of_beq_eq_true hlen
    subst hl
    simp only [xstep] at h
    split at h
    next x =>
      cases hi : xnar ret x with
      | false => rw [hi] at h; exact h.elim
      | true =>
        rw [hi] at h
        exact hI _ _ _ _ hdg hi h
    next => exact h.elim
  case lreturn =>
    have hl : len = 1 := Nat.eq_of_beq_eq_true hlen
    subst hl
    simp only [xstep] at h
    split at h
    next x =>
      split at h
      next => exact hJ _ _ _ _ hdg rfl h
      next => exact h.elim
    next => exact h.elim
  case return_ =>
    have hl : len = 1 := Nat.eq_of_beq_eq_true hlen
    subst hl
    simp only [xstep] at h
    split at h
    next =>
      split at h
      next => exact hV _ _ _ hdg rfl h
      next => exact h.elim
    next => exact h.elim
  all_goals exact hK _ _ _ _ h
/-- a stretch is sound -/
theorem xex_ok {code : List xI} {ft : List xF} {ct : List (Nat × Int64)} {oc : List (Nat × xH)} {ret : Option FieldType} {post : Option Value → List xE → Prop} {bp : List Nat}
    (hS : xS p s m args c dC dI kI kJ kQ own cc nL) (hft : ∀ q ∈ ft, xFok own q) (hct : ∀ q ∈ ct, Cond.constantLong own q.1 q.2 ∈ xT) (hoc : ∀ q ∈ oc, xHk p l e R s m args below meth c Q dC dI ad kI kJ kQ A H0 nL cells slots cc q)
    (hcode : xsf cc code)
    (hI : ∀ pc lv x G, decode cc pc = .ok (.ireturn, 1) → xnar ret x = true → post (some (.int x)) G → xW p l e R s m args below meth c Q dC dI ad kI kJ kQ A H0 nL cells slots pc lv [.int x] G)
    (hJ : ∀ pc lv x G, decode cc pc = .ok (.lreturn, 1) → ret = some .long → post (some (.long x)) G → xW p l e R s m args below meth c Q dC dI ad kI kJ kQ A H0 nL cells slots pc lv [.long x] G)
    (hV : ∀ pc lv G, decode cc pc = .ok (.return_, 1) → ret = none → post none G → xW p l e R s m args below meth c Q dC dI ad kI kJ kQ A H0 nL cells slots pc lv [] G) :
    ∀ (n : Nat) (fr : Bool) (cs : List xI) (lv : List (Option Value)) (st : List Value) (G : List xE), xsf cc cs →
      xex code ft ct oc ret post (xW p l e R s m args below meth c Q dC dI ad kI kJ kQ A H0 nL cells slots) bp n fr cs lv st G → xWs p l e R s m args below meth c Q dC dI ad kI kJ kQ A H0 nL cells slots cs lv st G
  | n, fr, [], lv, st, G, _, h => by cases n <;> exact h.elim
  | 0, fr, i :: cs, lv, st, G, _, h => ⟨i, cs, rfl, h⟩
  | n + 1, fr, (pc, ins, len) :: cs, lv, st, G, hcs, h => by
    refine ⟨_, _, rfl, ?_⟩
    unfold xex at h
    cases hb : (fr && bp.any (fun b => Nat.beq b pc)) with
    | true => rw [hb] at h; exact h
    | false =>
      rw [hb] at h
      exact xstep_ok hS hft hct hoc hcode hcs (fun cs lv st G h1 h2 => xex_ok hS hft hct hoc hcode hI hJ hV n true cs lv st G h1 h2) (fun _ _ _ _ h => h) hI hJ hV h
end XSND
end
section
/-! contracts over places, calls, entries -/
def xren (rho : Nat → Nat) (e : xE) : xE := match e with
  | .inl (n, .inl f) => .inl (n, .inl f)
  | .inl (n, .inr (.inl f)) => .inl (n, .inr (.inl f))
  | .inl (n, .inr (.inr (.inl f))) => .inl (n, .inr (.inr (.inl f)))
  | .inl (n, .inr (.inr (.inr (.inl f)))) => .inl (n, .inr (.inr (.inr (.inl f))))
  | .inl (n, .inr (.inr (.inr (.inr f)))) => .inl (n, .inr (.inr (.inr (.inr (xq rho f)))))
  | .inr (ci, fs) => .inr (ci, fs.map (xv rho))
def xrho (is : List Nat) (j : Nat) : Nat := match xnth is j with
  | some i => i
  | none => 0
theorem xrho_of {is : List Nat} {j i : Nat} (h : is[j]? = some i) : xrho is j = i := by
  unfold xrho
  rw [xnth_eq, h]
theorem xv_comp (ad rho : Nat → Nat) (v : Value) : xv (fun j => ad (rho j)) v = xv ad (xv rho v) := by cases v <;> rfl
theorem xe_comp (ad rho : Nat → Nat) (kI kJ kQ : ClassId) (e : xE) : xe (fun j => ad (rho j)) kI kJ kQ e = xe ad kI kJ kQ (xren rho e) := by
  obtain ⟨n, f | f | f | f | f⟩ | ⟨ci, fs⟩ := e
  · rfl
  · rfl
  · rfl
  · rfl
  · show (Sum.inl (kQ, n, Sum.inr (Sum.inr (Sum.inr (Sum.inr (xq (fun j => ad (rho j)) f))))) : va_E) = Sum.inl (kQ, n, Sum.inr (Sum.inr (Sum.inr (Sum.inr (xq ad (xq rho f))))))
    have : xq (fun j => ad (rho j)) f = xq ad (xq rho f) := by
      funext i
      unfold xq
      cases f i <;> rfl
    rw [this]
  · show (Sum.inr (ci, fs.map (xv (fun j => ad (rho j)))) : va_E) = Sum.inr (ci, (fs.map (xv rho)).map (xv ad))
    rw [List.map_map]
    congr 3
    funext v
    exact xv_comp ad rho v
/-- the callee's cells among the caller's -/
def xselP (rho : Nat → Nat) (G : List xE) : List Nat → List xE → Prop
  | _, [] => True
  | [], _ :: _ => False
  | i :: is, e :: Gc => xnth G i = some (xren rho e) ∧ xselP rho G is Gc
theorem xselP_at {rho : Nat → Nat} {G : List xE} : ∀ {is : List Nat} {Gc : List xE}, xselP rho G is Gc → ∀ (j : Nat) (e : xE), Gc[j]? = some e → ∃ i, is[j]? = some i ∧ G[i]? = some (xren rho e)
  | _, [], _, j, e, h => by simp at h
  | [], _ :: _, hs, _, _, _ => hs.elim
  | i :: is, e0 :: Gc, hs, 0, e, h => by
    simp at h
    subst h
    exact ⟨i, rfl, by rw [← xnth_eq]; exact hs.1⟩
  | i :: is, e0 :: Gc, hs, j + 1, e, h => by
    simp at h
    obtain ⟨i2, h1, h2⟩ := xselP_at hs.2 j e h
    exact ⟨i2, by simpa using h1, h2⟩
/-- the callee's cells put back -/
def xputK (rho : Nat → Nat) : List Nat → List xE → List xE → (List xE → Prop) → Prop
  | _, [], G, K => K G
  | [], _ :: _, _, _ => False
  | i :: is, e :: G1, G, K => xset (xren rho e) G i (fun G' => xputK rho is G1 G' K)
theorem xputK_ok {rho : Nat → Nat} : ∀ (is : List Nat) (G1 G : List xE) (K : List xE → Prop), xputK rho is G1 G K → ∃ G', K G' ∧ G'.length = G.length ∧ ∀ (k : Nat) (e : xE), G'[k]? = some e → (∃ (j : Nat) (e1 : xE), is[j]? = some k ∧ G1[j]? = some e1 ∧ e = xren rho e1) ∨ (G[k]? = some e ∧ ∀ j : Nat, j < G1.length → is[j]? ≠ some k)
  | is, [], G, K, h => ⟨G, by cases is <;> exact h, rfl, fun k e hk => Or.inr ⟨hk, fun j hj => by simp at hj⟩⟩
  | [], _ :: _, _, _, h => h.elim
  | i :: is, e0 :: G1, G, K, h => by
    obtain ⟨h1, h2⟩ := xset_ok _ _ _ _ h
    obtain ⟨G', h3, h4, h5⟩ := xputK_ok is G1 _ K h2
    refine ⟨G', h3, by simpa using h4, fun k e hk => ?_⟩
    rcases h5 k e hk with ⟨j, e1, q1, q2, q3⟩ | ⟨q1, q2⟩
    · exact Or.inl ⟨j + 1, e1, by simpa using q1, by simpa using q2, q3⟩
    · by_cases hki : i = k
      · subst hki
        rw [List.getElem?_set_self h1] at q1
        exact Or.inl ⟨0, e0, rfl, rfl, (Option.some.inj q1).symm⟩
      · rw [List.getElem?_set_ne hki] at q1
        refine Or.inr ⟨q1, fun j hj => ?_⟩
        cases j with
        | zero => simpa using hki
        | succ j => simpa using q2 j (by simpa using hj)
theorem xw_D {ad : Nat → Nat} {kI kJ kQ : ClassId} {A : Nat → Prop} {G G1 : List xE} (h : va_D A (xw ad kI kJ kQ G)) (hl : G1.length = G.length) : va_D A (xw ad kI kJ kQ G1) := by
  have key : ∀ (k : Nat) (q : Nat × va_E), (xw ad kI kJ kQ G1)[k]? = some q → ∃ q2, (xw ad kI kJ kQ G)[k]? = some q2 ∧ q2.1 = q.1 := by
    intro k q hk
    have h1 : k < G.length := by
      have := (List.getElem?_eq_some_iff.mp hk).1
      rw [xw_len] at this
      omega
    rw [xw_get] at hk
    obtain ⟨e, -, he⟩ := Option.map_eq_some_iff.mp hk
    refine ⟨_, xw_at (List.getElem?_eq_getElem h1), ?_⟩
    rw [← he]
  refine ⟨fun i j x y hi hj hxy => ?_, fun k q hk => ?_⟩
  · obtain ⟨x2, a1, a2⟩ := key i x hi
    obtain ⟨y2, b1, b2⟩ := key j y hj
    exact h.1 i j x2 y2 a1 b1 (by rw [a2, b2]; exact hxy)
  · obtain ⟨q2, a1, a2⟩ := key k q hk
    rw [← a2]
    exact h.2 k q2 a1
def xQ (dC : Nat → ClassId) (dI : Nat → Nat → Nat) (ad : Nat → Nat) (kI kJ kQ : ClassId) (G : List xE) (sz : Nat) (post : Option Value → List xE → Prop) : Array Value → State → Outcome → State → Prop := fun _ st oc t =>
  (∃ (r : Option Value) (G1 : List xE), oc = .returned (r.map (xv ad)) ∧ post r G1 ∧ va_P (dC, dI) vwCl (xw ad kI kJ kQ G1) t.heap) ∧ va_F (va_A (xw ad kI kJ kQ G) sz) st t
/-- a method's contract: with these arguments, from these cells, it returns, and 'post answer cells' -/
def xM (l : Launch) (y : MethodName) (cc : ByteArray) (maxL : Nat) (ret : Option FieldType) (rm : Room) (as : List Value) (G : List xE) (post : Option Value → List xE → Prop) : Prop :=
  ∀ (dC : Nat → ClassId) (dI : Nat → Nat → Nat) (ad : Nat → Nat) (kI kJ kQ : ClassId) (sz : Nat), Met l y (Cond.code y cc maxL ret :: xT) rm
    (va_Pc (as.map (xv ad)) (fun U => U.heap.size = sz ∧ va_P (dC, dI) vwCl (xw ad kI kJ kQ G) U.heap ∧ va_K (dC, dI) vwCl (xty kI kJ kQ) U ∧ va_D (fun _ => True) (xw ad kI kJ kQ G) ∧ xN U))
    (xQ dC dI ad kI kJ kQ G sz post) 0 0 (va_A (xw ad kI kJ kQ G) sz)
/-- what a method's walk may use: X is the machine's predicate -/
def xR (l : Launch) (own : String) (cc : ByteArray) (R : Room) (ret : Option FieldType) (post : Option Value → List xE → Prop) (nL : Nat) (X : Nat → List (Option Value) → List Value → List xE → Prop) : Prop :=
  ∃ (p : Program) (e : Env) (s : State) (m : MethodId) (args : Array Value) (below : List Frame) (meth : Method) (c : Code) (Q : State → Prop) (dC : Nat → ClassId) (dI : Nat → Nat → Nat) (ad : Nat → Nat) (kI kJ kQ : ClassId) (A : Nat → Prop) (H0 : Heap) (cells slots : Nat),
    X = xW p l e R s m args below meth c Q dC dI ad kI kJ kQ A H0 nL cells slots ∧ xS p s m args c dC dI kI kJ kQ own cc nL ∧ (∀ q, H0.size ≤ q → A q) ∧ (cells ≤ R.cells ∧ slots ≤ R.slots) ∧
    (∀ pc lv x G, decode cc pc = .ok (.ireturn, 1) → xnar ret x = true → post (some (.int x)) G → X pc lv [.int x] G) ∧
    (∀ pc lv x G, decode cc pc = .ok (.lreturn, 1) → ret = some .long → post (some (.long x)) G → X pc lv [.long x] G) ∧
    (∀ pc lv G, decode cc pc = .ok (.return_, 1) → ret = none → post none G → X pc lv [] G)
/-- a known call, of the walk's predicate -/
def xHq (cc : ByteArray) (X : Nat → List (Option Value) → List Value → List xE → Prop) (q : Nat × xH) : Prop :=
  ∀ (pc : Nat) (lv : List (Option Value)) (st : List Value) (G : List xE) (K : List Value → List xE → Prop), (decode cc pc = .ok (.invokevirtual q.1, 3) ∨ decode cc pc = .ok (.invokestatic q.1, 3)) → (∀ st G, K st G → X (pc + 3) lv st G) → q.2 st G K → X pc lv st G
theorem xR.run {l : Launch} {own : String} {cc : ByteArray} {R : Room} {ret : Option FieldType} {post : Option Value → List xE → Prop} {nL : Nat} {X : Nat → List (Option Value) → List Value → List xE → Prop} (h : xR l own cc R ret post nL X)
    {code : List xI} {ft : List xF} {ct : List (Nat × Int64)} {oc : List (Nat × xH)} (hcode : xsf cc code) (hft : ∀ q ∈ ft, xFok own q) (hct : ∀ q ∈ ct, Cond.constantLong own q.1 q.2 ∈ xT) (hoc : ∀ q ∈ oc, xHq cc X q) (bp : List Nat) (n : Nat) {pc : Nat} {lv : List (Option Value)} {st : List Value} {G : List xE}
    (hx : xex code ft ct oc ret post X bp n false (xjmp code (pc : Int)) lv st G) : X pc lv st G := by
  obtain ⟨p, e, s, m, args, below, meth, c, Q, dC, dI, ad, kI, kJ, kQ, A, H0, cells, slots, rfl, hS, -, -, hI, hJ, hV⟩ := h
  obtain ⟨j1, j2⟩ := xsf.jmp (t := (pc : Int)) code hcode
  obtain ⟨i, r, h1, h2⟩ := xex_ok hS hft hct hoc hcode hI hJ hV n false _ lv st G j1 hx
  have h3 := j2 i r h1
  rw [show pc = i.1 by omega]
  exact h2
theorem xgood {y : MethodName} {cc : ByteArray} {maxL : Nat} {ret : Option FieldType} (h : Cond.code y cc maxL ret ∈ xT) : GoodIn xT (Cond.code y cc maxL ret :: xT) := by
  have hg : ∀ w ∈ xT, w ∈ xT ∧ ((w.onTables && w.keeps) = true ∨ ∃ ty, w = .arrayClass ty) := fun w hw => ⟨hw, good_of_word (List.mem_filter.mp hw).2⟩
  intro w hw
  rcases List.mem_cons.mp hw with rfl | hw
  · exact hg _ h
  · exact hg w hw
/-- what the tables say of a method that is called; n: its parameters -/
def xY (y : MethodName) (cb : ByteArray) (maxL : Nat) (ret : Option FieldType) (n : Nat) : Prop := Cond.code y cb maxL ret ∈ xT ∧ Cond.initialized y.cls ∈ xT ∧ y.cls ≠ "java/lang/invoke/MethodHandle" ∧ y.cls ≠ "java/lang/invoke/VarHandle" ∧ (parseMethodDescriptor y.desc).map (fun d => d.parameters.length) = some n
section XCALL
variable {p : Program} {l : Launch} {e : Env} {R : Room} {s : State} {m : MethodId} {args : Array Value} {below : List Frame} {meth : Method} {c : Code} {Q : State → Prop} {dC : Nat → ClassId} {dI : Nat → Nat → Nat} {ad : Nat → Nat} {kI kJ kQ : ClassId} {A : Nat → Prop} {H0 : Heap} {nL cells slots : Nat} {own : String} {cc : ByteArray}
theorem xW_call {Gc G : List xE} {is : List Nat} {rest : List Value} {post2 : Option Value → List xE → Prop} {pc : Nat} {lv : List (Option Value)} {st : List Value} {av : Array Value} (hA : ∀ q, H0.size ≤ q → A q) (hsel : xselP (xrho is) G is Gc) (hlen : ∀ r G1, post2 r G1 → G1.length = Gc.length)
    (hrun : ∀ (H : Heap) (locs : List Loc) (ls : Array Slot), va_P (dC, dI) vwCl (xw ad kI kJ kQ G) H → va_D A (xw ad kI kJ kQ G) → va_S A H0 H locs → xL ad nL lv ls → va_P (dC, dI) vwCl (xw (fun j => ad (xrho is j)) kI kJ kQ Gc) H → va_D (fun _ => True) (xw (fun j => ad (xrho is j)) kI kJ kQ Gc) → va_Run p l e R s m args below meth c H locs cells slots 0 0 (F0 m pc ls (st.map (xv ad))) (rest.map (xv ad)) (xQ dC dI (fun j => ad (xrho is j)) kI kJ kQ Gc H.size post2 av) (va_A (xw (fun j => ad (xrho is j)) kI kJ kQ Gc) H.size))
    (hnd : va_nd (is.take Gc.length) = true)
    (kk : ∀ r G1, post2 r G1 → xputK (xrho is) is G1 G (fun G' => xW p l e R s m args below meth c Q dC dI ad kI kJ kQ A H0 nL cells slots (pc + 3) lv ((r.map (xv (xrho is))).toList ++ rest) G')) : xW p l e R s m args below meth c Q dC dI ad kI kJ kQ A H0 nL cells slots pc lv st G := by
  intro H locs ls hP hD hS hL
  have hat : ∀ (j : Nat) (q : Nat × va_E), (xw (fun j => ad (xrho is j)) kI kJ kQ Gc)[j]? = some q → ∃ i, is[j]? = some i ∧ j < Gc.length ∧ (xw ad kI kJ kQ G)[i]? = some q := by
    intro j q hq
    have hjl : j < Gc.length := by have := (List.getElem?_eq_some_iff.mp hq).1; rw [xw_len] at this; exact this
    rw [xw_get] at hq
    obtain ⟨e0, h1, h2⟩ := Option.map_eq_some_iff.mp hq
    obtain ⟨i, h3, h4⟩ := xselP_at hsel j e0 h1
    refine ⟨i, h3, hjl, ?_⟩
    rw [xw_at h4, ← h2]
    show some (ad i, xe ad kI kJ kQ (xren (xrho is) e0)) = some (ad (xrho is j), xe (fun j => ad (xrho is j)) kI kJ kQ e0)
    rw [xrho_of h3, xe_comp ad (xrho is)]
  have hPc : va_P (dC, dI) vwCl (xw (fun j => ad (xrho is j)) kI kJ kQ Gc) H := fun j q hq => by
    obtain ⟨i, -, -, h⟩ := hat j q hq
    exact hP i q h
  have hDc : va_D A (xw (fun j => ad (xrho is j)) kI kJ kQ Gc) := by
    refine ⟨fun i j x y hi hj hxy => ?_, fun k q hk => ?_⟩
    · obtain ⟨i2, a1, a2, a3⟩ := hat i x hi
      obtain ⟨j2, b1, b2, b3⟩ := hat j y hj
      have := hD.1 i2 j2 x y a3 b3 hxy
      subst this
      exact va_nd_inj _ hnd i j i2 (by rw [List.getElem?_take_of_lt a2]; exact a1) (by rw [List.getElem?_take_of_lt b2]; exact b1)
    · obtain ⟨i, -, -, h⟩ := hat k q hk
      exact hD.2 i q h
  have hr := hrun H locs ls hP hD hS hL hPc (hDc.weaken (fun _ _ _ _ => trivial))
  intro T hT X
  obtain ⟨v, st₀, t, T', L, h0, X', hL1, e1, e2, ⟨⟨r, G1, hv, hp, hP1⟩, hz, hk⟩, stp⟩ := hr T hT X
  rw [h0] at hz hk
  obtain ⟨G', k1, k2, k3⟩ := xputK_ok _ _ _ _ (kk r G1 hp)
  have hl1 := hlen r G1 hp
  have hfree : ∀ q, va_A (xw (fun j => ad (xrho is j)) kI kJ kQ Gc) H.size q → A q := by
    rintro q (⟨j, e0, h⟩ | h)
    · exact hDc.2 j (q, e0) h
    · exact hA q (Nat.le_trans hS.1 h)
  have hP' : va_P (dC, dI) vwCl (xw ad kI kJ kQ G') T'.heap := by
    intro k q hq
    have hq0 := hq
    rw [xw_get] at hq
    obtain ⟨e0, h1, h2⟩ := Option.map_eq_some_iff.mp hq
    rcases k3 k e0 h1 with ⟨j, e9, q1, q2, q3⟩ | ⟨q1, q2⟩
    · have h5 := hP1 j (ad (xrho is j), xe (fun j => ad (xrho is j)) kI kJ kQ e9) (xw_at q2)
      rw [xe_comp ad (xrho is), ← q3, xrho_of q1, h2] at h5
      rw [e1]
      exact h5
    · have h5 := hP k q (by rw [xw_at q1, ← h2])
      refine h5.kept ?_
      rw [e1]
      refine hk q.1 h5.lt ?_
      rintro (⟨j, e9, h⟩ | h)
      · obtain ⟨i, a1, a2, a3⟩ := hat j _ h
        have hki := hD.1 k i q (q.1, e9) (by rw [xw_at q1, ← h2]) a3 rfl
        subst hki
        exact q2 j (by rw [hl1]; exact a2) a1
      · have := h5.lt
        omega
  have hS' : va_S A H0 T'.heap (locs ++ L) := by
    refine ⟨Nat.le_trans hS.1 (by rw [e1]; exact hz), fun q h1 h2 => ?_, fun q hq => ?_⟩
    · rw [e1, hk q (Nat.lt_of_lt_of_le h1 hS.1) (fun z => h2 (hfree q z))]
      exact hS.2.1 q h1 h2
    · rcases List.mem_append.mp hq with h | h
      · exact hS.2.2 q h
      · exact hfree _ (hL1 q h)
  obtain ⟨t2, a1, b1⟩ := k1 T'.heap (locs ++ L) ls hP' (xw_D hD k2) hS' hL T' rfl X'
  refine ⟨t2, stp t2 ?_, b1⟩
  have hv2 : v = r.map (xv (fun j => ad (xrho is j))) := by cases hv; rfl
  rw [hv2]
  have hst : (r.map (xv (fun j => ad (xrho is j)))).toList ++ rest.map (xv ad) = List.map (xv ad) ((r.map (xv (xrho is))).toList ++ rest) := by
    cases r with
    | none => rfl
    | some w => simp [xv_comp]
  rw [hst]
  exact a1
end XCALL
theorem xblind {av : List Value} {dC : Nat → ClassId} {dI : Nat → Nat → Nat} {ad : Nat → Nat} {kI kJ kQ : ClassId} {sz : Nat} {G : List xE} : FrameBlind (va_Pc av (fun U => U.heap.size = sz ∧ va_P (dC, dI) vwCl (xw ad kI kJ kQ G) U.heap ∧ va_K (dC, dI) vwCl (xty kI kJ kQ) U ∧ va_D (fun _ => True) (xw ad kI kJ kQ G) ∧ xN U)) := by
  intro a U g mk q
  obtain ⟨q0, q1, qP, qK, qD, qN⟩ := q
  exact ⟨q0, q1, qP, va_K.moved (u := U) (U := U.calling g mk a) (Vm.Alike.refl U.vm) qK, qD, xN.same (u := U) (U := U.calling g mk a) rfl qN⟩
theorem xcat_sum (ad : Nat → Nat) (rest : List Value) : ((rest.map (xv ad)).map fun v => v.category).sum = (rest.map fun v => v.category).sum := by
  rw [List.map_map]
  congr 1
  apply List.map_congr_left
  intro v _
  exact xv_cat ad v
theorem xmap_rev (ad rho : Nat → Nat) (as rest : List Value) : ((as.map (xv rho)).reverse ++ rest).map (xv ad) = (as.map (xv (fun j => ad (rho j)))).reverse ++ rest.map (xv ad) := by
  rw [List.map_append, List.map_reverse, List.map_map]
  congr 3
  funext v
  exact (xv_comp ad rho v).symm
section XCALLS
variable {l : Launch} {own : String} {cc : ByteArray} {R : Room} {ret : Option FieldType} {post : Option Value → List xE → Prop} {nL : Nat} {X : Nat → List (Option Value) → List Value → List xE → Prop}
/-- an instance method -/
theorem xR.callV (h : xR l own cc R ret post nL X) {idx : Nat} {y : MethodName} {cb : ByteArray} {maxL n : Nat} {ret2 : Option FieldType} {rm : Room} {j0 : Nat} {as : List Value} {Gc : List xE} {post2 : Option Value → List xE → Prop} (is : List Nat) (rest : List Value) {pc : Nat} {lv : List (Option Value)} {st : List Value} {G : List xE} {ci : Nat} {fs : List Value} {cv : vw_C}
    (hM : xM l y cb maxL ret2 rm (.ref j0 :: as) Gc post2) (hY : xY y cb maxL ret2 n) (hlk : Cond.methodLink own idx y ∈ xT) (hin : Cond.instanceMethod y ∈ xT) (hse : Cond.selects y.cls y y ∈ xT)
    (hR : rm.cells = 0 ∧ rm.slots = 0 ∧ rm.frames + 1 ≤ R.frames ∧ 8 + (maxL + 11) + rm.locals ≤ R.locals) (hdg : decode cc pc = .ok (.invokevirtual idx, 3)) (hn : as.length = n)
    (hst : st = ((Value.ref j0 :: as).map (xv (xrho is))).reverse ++ rest) (hrest : (rest.map fun v => v.category).sum ≤ 8)
    (hrc : xnth G (xrho is j0) = some (.inr (ci, fs))) (hcv : vwCl[ci]? = some cv) (hcn : cv.1 = y.cls)
    (hsel : xselP (xrho is) G is Gc) (hnd : va_nd (is.take Gc.length) = true) (hlen : ∀ r G1, post2 r G1 → G1.length = Gc.length)
    (kk : ∀ r G1, post2 r G1 → xputK (xrho is) is G1 G (fun G' => X (pc + 3) lv ((r.map (xv (xrho is))).toList ++ rest) G')) : X pc lv st G := by
  obtain ⟨p, e, s, m, args, below, meth, c, Q, dC, dI, ad, kI, kJ, kQ, A, H0, cells, slots, rfl, ⟨hx, hb, hml, hown, hts, hKK, hN⟩, hA, ⟨hcl, hsl⟩, -⟩ := h
  obtain ⟨y1, y2, y3, y4, y5⟩ := hY
  refine xW_call (av := (Value.ref (ad (xrho is j0)) :: as.map (xv (fun j => ad (xrho is j)))).toArray) hA hsel hlen ?_ hnd kk
  intro H locs ls hP hD hS hL hPc hDc
  have hrv : (xw ad kI kJ kQ G)[xrho is j0]? = some (ad (xrho is j0), .inr (ci, fs.map (xv ad))) := xw_at (by rw [← xnth_eq]; exact hrc)
  obtain ⟨cellB, g1, g2, g3⟩ := va_recv hKK hP hcv hrv
  rw [hcn] at g3
  refine va_runV (C := y.cls) (b := ad (xrho is j0)) (As := as.map (xv (fun j => ad (xrho is j)))) (n := n) (bytes := cb) (maxL := maxL) (ret := ret2) ⟨hx, hb, hml, hown, hts⟩ (hM dC dI (fun j => ad (xrho is j)) kI kJ kQ H.size) ⟨callB_of n hts (xgood y1) rfl hR.1 hR.2.1 (hts _ y2) (hts _ hlk) ⟨y3, y4, y5⟩ hR.2.2, hts _ hin, hts _ hse⟩ ⟨xblind, ⟨cellB, g1, g2, g3⟩, fun U hU hW => ⟨rfl, by rw [hU], by rw [hU]; exact hPc, va_K.moved hW.alike hKK, hDc, hN.warm hW⟩⟩ rfl (by simpa using hn) hL.1 ?_ ?_ hdg ⟨by omega, by omega⟩
  · show st.map (xv ad) = _
    rw [hst, xmap_rev]
    simp [xv]
  · rw [xcat_sum]
    exact lv_room hrest
/-- a static method -/
theorem xR.callS (h : xR l own cc R ret post nL X) {idx : Nat} {y : MethodName} {cb : ByteArray} {maxL n : Nat} {ret2 : Option FieldType} {rm : Room} {as : List Value} {Gc : List xE} {post2 : Option Value → List xE → Prop} (is : List Nat) (rest : List Value) {pc : Nat} {lv : List (Option Value)} {st : List Value} {G : List xE}
    (hM : xM l y cb maxL ret2 rm as Gc post2) (hY : xY y cb maxL ret2 n) (hlk : Cond.methodLink own idx y ∈ xT) (hin : Cond.static y ∈ xT)
    (hR : rm.cells = 0 ∧ rm.slots = 0 ∧ rm.frames + 1 ≤ R.frames ∧ 8 + (maxL + 11) + rm.locals ≤ R.locals) (hdg : decode cc pc = .ok (.invokestatic idx, 3)) (hn : as.length = n)
    (hst : st = (as.map (xv (xrho is))).reverse ++ rest) (hrest : (rest.map fun v => v.category).sum ≤ 8)
    (hsel : xselP (xrho is) G is Gc) (hnd : va_nd (is.take Gc.length) = true) (hlen : ∀ r G1, post2 r G1 → G1.length = Gc.length)
    (kk : ∀ r G1, post2 r G1 → xputK (xrho is) is G1 G (fun G' => X (pc + 3) lv ((r.map (xv (xrho is))).toList ++ rest) G')) : X pc lv st G := by
  obtain ⟨p, e, s, m, args, below, meth, c, Q, dC, dI, ad, kI, kJ, kQ, A, H0, cells, slots, rfl, ⟨hx, hb, hml, hown, hts, hKK, hN⟩, hA, ⟨hcl, hsl⟩, -⟩ := h
  obtain ⟨y1, y2, y3, y4, y5⟩ := hY
  refine xW_call (av := (as.map (xv (fun j => ad (xrho is j)))).toArray) hA hsel hlen ?_ hnd kk
  intro H locs ls hP hD hS hL hPc hDc
  refine va_runS (As := as.map (xv (fun j => ad (xrho is j)))) (n := n) (bytes := cb) (maxL := maxL) (ret := ret2) ⟨hx, hb, hml, hown, hts⟩ (hM dC dI (fun j => ad (xrho is j)) kI kJ kQ H.size) ⟨callB_of n hts (xgood y1) rfl hR.1 hR.2.1 (hts _ y2) (hts _ hlk) ⟨y3, y4, y5⟩ hR.2.2, hts _ hin⟩ ⟨xblind, fun U hU hW => ⟨rfl, by rw [hU], by rw [hU]; exact hPc, va_K.moved hW.alike hKK, hDc, hN.warm hW⟩⟩ rfl (by simpa using hn) hL.1 ?_ ?_ hdg ⟨by omega, by omega⟩
  · show st.map (xv ad) = _
    rw [hst, xmap_rev]
  · rw [xcat_sum]
    exact lv_room hrest
/-- a private static method of a nest mate -/
theorem xR.callSN (h : xR l own cc R ret post nL X) {idx : Nat} {host : String} {y : MethodName} {cb : ByteArray} {maxL n : Nat} {ret2 : Option FieldType} {rm : Room} {as : List Value} {Gc : List xE} {post2 : Option Value → List xE → Prop} (is : List Nat) (rest : List Value) {pc : Nat} {lv : List (Option Value)} {st : List Value} {G : List xE}
    (hM : xM l y cb maxL ret2 rm as Gc post2) (hY : xY y cb maxL ret2 n) (hlk : Cond.methodLinkNest own idx y host ∈ tables_1) (hin : Cond.static y ∈ xT)
    (hR : rm.cells = 0 ∧ rm.slots = 0 ∧ rm.frames + 1 ≤ R.frames ∧ 8 + (maxL + 11) + rm.locals ≤ R.locals) (hdg : decode cc pc = .ok (.invokestatic idx, 3)) (hn : as.length = n)
    (hst : st = (as.map (xv (xrho is))).reverse ++ rest) (hrest : (rest.map fun v => v.category).sum ≤ 8)
    (hsel : xselP (xrho is) G is Gc) (hnd : va_nd (is.take Gc.length) = true) (hlen : ∀ r G1, post2 r G1 → G1.length = Gc.length)
    (kk : ∀ r G1, post2 r G1 → xputK (xrho is) is G1 G (fun G' => X (pc + 3) lv ((r.map (xv (xrho is))).toList ++ rest) G')) : X pc lv st G := by
  obtain ⟨p, e, s, m, args, below, meth, c, Q, dC, dI, ad, kI, kJ, kQ, A, H0, cells, slots, rfl, ⟨hx, hb, hml, hown, hts, hKK, hN⟩, hA, ⟨hcl, hsl⟩, -⟩ := h
  obtain ⟨y1, y2, y3, y4, y5⟩ := hY
  refine xW_call (av := (as.map (xv (fun j => ad (xrho is j)))).toArray) hA hsel hlen ?_ hnd kk
  intro H locs ls hP hD hS hL hPc hDc
  refine va_runSN (host := host) (As := as.map (xv (fun j => ad (xrho is j)))) (n := n) (bytes := cb) (maxL := maxL) (ret := ret2) ⟨hx, hb, hml, hown, hts⟩ (hM dC dI (fun j => ad (xrho is j)) kI kJ kQ H.size) ⟨va_cnB n hts (xgood y1) rfl hR.1 hR.2.1 (hN _ hlk rfl) (hts _ y2) ⟨y3, y4, y5⟩ hR.2.2, hts _ hin, trivial⟩ ⟨xblind, fun U hU hW => ⟨rfl, by rw [hU], by rw [hU]; exact hPc, va_K.moved hW.alike hKK, hDc, hN.warm hW⟩⟩ rfl (by simpa using hn) hL.1 ?_ ?_ hdg ⟨by omega, by omega⟩
  · show st.map (xv ad) = _
    rw [hst, xmap_rev]
  · rw [xcat_sum]
    exact lv_room hrest
end XCALLS
/-- the locals with which a method begins -/
def xlv : List Value → Nat → List (Option Value)
  | [], n => List.replicate n none
  | v :: vs, n => cond (Nat.beq v.category 2) (some v :: none :: xlv vs (n - 2)) (some v :: xlv vs (n - 1))
theorem xlv_len : ∀ (as : List Value) (n : Nat), (lg_sl as).length ≤ n → (xlv as n).length = n
  | [], n, _ => by simp [xlv]
  | v :: vs, n, h => by
    unfold xlv
    rcases lv_cat v with hc | hc
    · have h1 : (lg_sl (v :: vs)).length = 1 + (lg_sl vs).length := by simp [lg_sl, hc]; omega
      rw [hc]
      show (some v :: xlv vs (n - 1)).length = n
      rw [List.length_cons, xlv_len vs (n - 1) (by omega)]
      omega
    · have h1 : (lg_sl (v :: vs)).length = 2 + (lg_sl vs).length := by simp [lg_sl, hc]; omega
      rw [hc]
      show (some v :: none :: xlv vs (n - 2)).length = n
      rw [List.length_cons, List.length_cons, xlv_len vs (n - 2) (by omega)]
      omega
theorem xlv_mem (ad : Nat → Nat) : ∀ (as : List Value) (n k i : Nat) (v : Value), (xlv as n)[i]? = some (some v) → (k + i, xv ad v) ∈ lv_args k (as.map (xv ad))
  | [], n, k, i, v, h => by
    simp [xlv, List.getElem?_replicate] at h
  | w :: vs, n, k, i, v, h => by
    unfold xlv at h
    show (k + i, xv ad v) ∈ (k, xv ad w) :: lv_args (if (xv ad w).category = 2 then k + 2 else k + 1) (vs.map (xv ad))
    rw [xv_cat]
    rcases lv_cat w with hc | hc
    · rw [hc] at h ⊢
      change (some w :: xlv vs (n - 1))[i]? = some (some v) at h
      cases i with
      | zero => simp at h; subst h; exact List.mem_cons_self
      | succ i =>
        rw [List.getElem?_cons_succ] at h
        have h2 := xlv_mem ad vs (n - 1) (k + 1) i v h
        refine List.mem_cons_of_mem _ ?_
        simp only [show ¬ (1 : Nat) = 2 by decide, if_false]
        rw [show k + (i + 1) = k + 1 + i by omega]
        exact h2
    · rw [hc] at h ⊢
      change (some w :: none :: xlv vs (n - 2))[i]? = some (some v) at h
      cases i with
      | zero => simp at h; subst h; exact List.mem_cons_self
      | succ i =>
        cases i with
        | zero => simp at h
        | succ i =>
          rw [List.getElem?_cons_succ, List.getElem?_cons_succ] at h
          have h2 := xlv_mem ad vs (n - 2) (k + 2) i v h
          refine List.mem_cons_of_mem _ ?_
          simp only [if_true]
          rw [show k + (i + 1 + 1) = k + 2 + i by omega]
          exact h2
theorem xsl_len (ad : Nat → Nat) (as : List Value) : (lg_sl (as.map (xv ad))).length = (lg_sl as).length := by
  induction as with
  | nil => rfl
  | cons v t ih =>
    have : (lg_sl (v :: t)).length = (if v.category = 2 then 2 else 1) + (lg_sl t).length := by
      by_cases hc : v.category = 2 <;> simp [lg_sl, hc] <;> omega
    have h2 : (lg_sl ((v :: t).map (xv ad))).length = (if (xv ad v).category = 2 then 2 else 1) + (lg_sl (t.map (xv ad))).length := by
      by_cases hc : (xv ad v).category = 2 <;> simp [lg_sl, hc] <;> omega
    rw [this, h2, ih, xv_cat]
theorem xM.of {l : Launch} {y : MethodName} {cc : ByteArray} {maxL : Nat} {ret : Option FieldType} {rm : Room} {as : List Value} {G : List xE} {post : Option Value → List xE → Prop} (hy : plainName y.cls = true) (hfit : (lg_sl as).length ≤ maxL)
    (body : ∀ X, xR l y.cls cc rm ret post maxL X → X 0 (xlv as maxL) [] G) : xM l y cc maxL ret rm as G post := by
  intro dC dI ad kI kJ kQ sz
  refine Met.ofW (cc := cc) (maxL := maxL) (ret := ret) hy rfl ?_
  intro p e s m args below meth c s₁ B hml hv
  obtain ⟨rfl, hsz, hP, hK, hD0, hN⟩ := hv
  have hx := B.exec
  have hb := B.bytes
  have hr := B.returns
  have hts0 := atoms_spec (ws := Cond.code y cc maxL ret :: xT) B.pre
  have hown : s.vm.findClass y.cls = some m.cls := findClass_of_methodNamed B.named
  have hlocks := B.notSynchronized
  subst hsz
  have hD := hD0.self (sz := s.heap.size)
  have hA : ∀ q : Nat, s.heap.size ≤ q → va_A (xw ad kI kJ kQ G) s.heap.size q := fun q h => Or.inr h
  have hS : va_S (va_A (xw ad kI kJ kQ G) s.heap.size) s.heap s.heap [] := va_S.rf
  have hl := lv_entry (as.map (xv ad)) (n := maxL) (by rw [xsl_len]; exact hfit)
  rw [lg_entry_eq]
  generalize (lg_sl (as.map (xv ad)) ++ List.replicate (maxL - (lg_sl (as.map (xv ad))).length) Slot.unset).toArray = ls at hl ⊢
  have hL : xL ad maxL (xlv as maxL) ls := ⟨hl.1, hl.2.1, xlv_len as maxL hfit, fun i v hv => hl.2.2 (i, xv ad v) (by have := xlv_mem ad as maxL 0 i v hv; simpa using this)⟩
  have key := body (xW p l e rm s m (as.map (xv ad)).toArray below meth c (MQ below (xQ dC dI ad kI kJ kQ G s.heap.size post) (as.map (xv ad)).toArray s 0 0 (va_A (xw ad kI kJ kQ G) s.heap.size)) dC dI ad kI kJ kQ (va_A (xw ad kI kJ kQ G) s.heap.size) s.heap maxL 0 0) ?_
  · exact key s.heap [] ls hP hD hS hL
  · refine ⟨p, e, s, m, _, below, meth, c, _, dC, dI, ad, kI, kJ, kQ, _, s.heap, 0, 0, rfl, ⟨hx, hb, hml, hown, fun w hw => hts0 w (List.mem_cons_of_mem _ hw), hK, hN⟩, hA, ⟨Nat.zero_le _, Nat.zero_le _⟩, ?_, ?_, ?_⟩
    · intro pc lv x G1 hdg hn hp H locs ls2 hP2 hD2 hS2 hL2
      unfold xnar at hn
      split at hn
      next => exact W.iret hx hb hr (fun t ht hW => ⟨⟨some (.int x), G1, rfl, hp, by rw [ht]; exact hP2⟩, hS2.F ht⟩) hS2.2.2 hdg hlocks
      next => exact W.zret hx hb hr (of_decide_eq_true hn) (fun t ht hW => ⟨⟨some (.int x), G1, rfl, hp, by rw [ht]; exact hP2⟩, hS2.F ht⟩) hS2.2.2 hdg hlocks
      next => cases hn
    · intro pc lv x G1 hdg hn hp H locs ls2 hP2 hD2 hS2 hL2
      exact W.lret hx hb (by rw [hr, hn]) (fun t ht hW => ⟨⟨some (.long x), G1, rfl, hp, by rw [ht]; exact hP2⟩, hS2.F ht⟩) hS2.2.2 hdg hlocks
    · intro pc lv G1 hdg hn hp H locs ls2 hP2 hD2 hS2 hL2
      exact W.vret hx hb (by rw [hr, hn]) (fun t ht hW => ⟨⟨none, G1, rfl, hp, by rw [ht]; exact hP2⟩, hS2.F ht⟩) hS2.2.2 hdg hlocks
end
section
theorem xiX0 : ∀ w ∈ u_ws RX0 TX0 4, w ∈ xT := by
  have h : ∀ w ∈ u_ws RX0 TX0 4, w ∈ tables_1 ∧ goodWord w = true := by decide +kernel
  exact fun w hw => xT_of (List.mem_append_right _ (h w hw).1) (h w hw).2
theorem xiX1 : ∀ w ∈ u_ws RX1 TX1 4, w ∈ xT := by
  have h : ∀ w ∈ u_ws RX1 TX1 4, w ∈ tables_1 ∧ goodWord w = true := by decide +kernel
  exact fun w hw => xT_of (List.mem_append_right _ (h w hw).1) (h w hw).2
theorem xiX4 : ∀ w ∈ u_ws RX4 TX4 3, w ∈ xT := by
  have h : ∀ w ∈ u_ws RX4 TX4 3, w ∈ tables_1 ∧ goodWord w = true := by decide +kernel
  exact fun w hw => xT_of (List.mem_append_right _ (h w hw).1) (h w hw).2
theorem xiX5 : ∀ w ∈ u_ws RX5 TX5 7, w ∈ xT := by
  have h : ∀ w ∈ u_ws RX5 TX5 7, w ∈ tables_1 ∧ goodWord w = true := by decide +kernel
  exact fun w hw => xT_of (List.mem_append_right _ (h w hw).1) (h w hw).2
theorem xiX6 : ∀ w ∈ u_ws RX6 TX6 6, w ∈ xT := by
  have h : ∀ w ∈ u_ws RX6 TX6 6, w ∈ tables_1 ∧ goodWord w = true := by decide +kernel
  exact fun w hw => xT_of (List.mem_append_right _ (h w hw).1) (h w hw).2
theorem xiX8 : ∀ w ∈ u_ws RX8 TX8 4, w ∈ xT := by
  have h : ∀ w ∈ u_ws RX8 TX8 4, w ∈ tables_1 ∧ goodWord w = true := by decide +kernel
  exact fun w hw => xT_of (List.mem_append_right _ (h w hw).1) (h w hw).2
theorem xiX10 : ∀ w ∈ u_ws RX10 TX10 17, w ∈ xT := by
  have h : ∀ w ∈ u_ws RX10 TX10 17, w ∈ tables_1 ∧ goodWord w = true := by decide +kernel
  exact fun w hw => xT_of (List.mem_append_right _ (h w hw).1) (h w hw).2
theorem xiX11 : ∀ w ∈ u_ws RX11 TX11 18, w ∈ xT := by
  have h : ∀ w ∈ u_ws RX11 TX11 18, w ∈ tables_1 ∧ goodWord w = true := by decide +kernel
  exact fun w hw => xT_of (List.mem_append_right _ (h w hw).1) (h w hw).2
theorem xfX0_14 : xFok RX0 (14, 0, 0, 0) := ⟨RX0, TX0, 4, tyX0, rfl, by decide, xiX0, tyX0_ok, nmX0, rfl, Or.inl (xT_at 174 (by decide +kernel) rfl), fun h => absurd h (by decide), fun h => absurd h (by decide), fun h => absurd rfl h⟩
theorem xfX0_20 : xFok RX0 (20, 0, 1, 0) := ⟨RX0, TX0, 4, tyX0, rfl, by decide, xiX0, tyX0_ok, nmX0, rfl, Or.inl (xT_at 176 (by decide +kernel) rfl), fun h => absurd h (by decide), fun h => absurd h (by decide), fun h => absurd rfl h⟩
theorem xfX0_24 : xFok RX0 (24, 0, 2, 0) := ⟨RX0, TX0, 4, tyX0, rfl, by decide, xiX0, tyX0_ok, nmX0, rfl, Or.inl (xT_at 177 (by decide +kernel) rfl), fun h => absurd h (by decide), fun h => absurd h (by decide), fun h => absurd rfl h⟩
theorem xfX0_27 : xFok RX0 (27, 0, 3, 0) := ⟨RX0, TX0, 4, tyX0, rfl, by decide, xiX0, tyX0_ok, nmX0, rfl, Or.inl (xT_at 178 (by decide +kernel) rfl), fun h => absurd h (by decide), fun h => absurd h (by decide), fun h => absurd rfl h⟩
def ftX0 : List xF := [(14, 0, 0, 0), (20, 0, 1, 0), (24, 0, 2, 0), (27, 0, 3, 0)]
theorem ftX0_ok : ∀ q ∈ ftX0, xFok RX0 q := List.forall_mem_cons.mpr ⟨xfX0_14, List.forall_mem_cons.mpr ⟨xfX0_20, List.forall_mem_cons.mpr ⟨xfX0_24, List.forall_mem_cons.mpr ⟨xfX0_27, fun _ h => absurd h List.not_mem_nil⟩⟩⟩⟩
theorem xfX1_9 : xFok RX1 (9, 1, 0, 0) := ⟨RX1, TX1, 4, tyX1, rfl, by decide, xiX1, tyX1_ok, nmX1, rfl, Or.inl (xT_at 100 (by decide +kernel) rfl), fun h => absurd h (by decide), fun h => absurd h (by decide), fun h => absurd rfl h⟩
theorem xfX1_15 : xFok RX1 (15, 1, 1, 0) := ⟨RX1, TX1, 4, tyX1, rfl, by decide, xiX1, tyX1_ok, nmX1, rfl, Or.inl (xT_at 101 (by decide +kernel) rfl), fun h => absurd h (by decide), fun h => absurd h (by decide), fun h => absurd rfl h⟩
theorem xfX1_18 : xFok RX1 (18, 1, 2, 0) := ⟨RX1, TX1, 4, tyX1, rfl, by decide, xiX1, tyX1_ok, nmX1, rfl, Or.inl (xT_at 102 (by decide +kernel) rfl), fun h => absurd h (by decide), fun h => absurd h (by decide), fun h => absurd rfl h⟩
theorem xfX1_21 : xFok RX1 (21, 1, 3, 0) := ⟨RX1, TX1, 4, tyX1, rfl, by decide, xiX1, tyX1_ok, nmX1, rfl, Or.inl (xT_at 103 (by decide +kernel) rfl), fun h => absurd h (by decide), fun h => absurd h (by decide), fun h => absurd rfl h⟩
def ftX1 : List xF := [(9, 1, 0, 0), (15, 1, 1, 0), (18, 1, 2, 0), (21, 1, 3, 0)]
theorem ftX1_ok : ∀ q ∈ ftX1, xFok RX1 q := List.forall_mem_cons.mpr ⟨xfX1_9, List.forall_mem_cons.mpr ⟨xfX1_15, List.forall_mem_cons.mpr ⟨xfX1_18, List.forall_mem_cons.mpr ⟨xfX1_21, fun _ h => absurd h List.not_mem_nil⟩⟩⟩⟩
theorem xfX4_11 : xFok RX4 (11, 2, 0, 0) := ⟨RX4, TX4, 3, tyX4, rfl, by decide, xiX4, tyX4_ok, nmX4, rfl, Or.inl (xT_at 53 (by decide +kernel) rfl), fun h => absurd h (by decide), fun h => absurd h (by decide), fun h => absurd rfl h⟩
theorem xfX4_21 : xFok RX4 (21, 2, 1, 0) := ⟨RX4, TX4, 3, tyX4, rfl, by decide, xiX4, tyX4_ok, nmX4, rfl, Or.inl (xT_at 54 (by decide +kernel) rfl), fun h => absurd h (by decide), fun h => absurd h (by decide), fun h => absurd rfl h⟩
theorem xfX4_25 : xFok RX4 (25, 2, 2, 1) := ⟨RX4, TX4, 3, tyX4, rfl, by decide, xiX4, tyX4_ok, nmX4, rfl, Or.inl (xT_at 55 (by decide +kernel) rfl), fun _ => ⟨rfl, rfl⟩, fun h => absurd h (by decide), fun _ => xT_at 55 (by decide +kernel) rfl⟩
def ftX4 : List xF := [(11, 2, 0, 0), (21, 2, 1, 0), (25, 2, 2, 1)]
theorem ftX4_ok : ∀ q ∈ ftX4, xFok RX4 q := List.forall_mem_cons.mpr ⟨xfX4_11, List.forall_mem_cons.mpr ⟨xfX4_21, List.forall_mem_cons.mpr ⟨xfX4_25, fun _ h => absurd h List.not_mem_nil⟩⟩⟩
theorem xfX5_9 : xFok RX5 (9, 3, 0, 0) := ⟨RX5, TX5, 7, tyX5, rfl, by decide, xiX5, tyX5_ok, nmX5, rfl, Or.inl (xT_at 71 (by decide +kernel) rfl), fun h => absurd h (by decide), fun h => absurd h (by decide), fun h => absurd rfl h⟩
theorem xfX5_17 : xFok RX5 (17, 3, 1, 0) := ⟨RX5, TX5, 7, tyX5, rfl, by decide, xiX5, tyX5_ok, nmX5, rfl, Or.inl (xT_at 72 (by decide +kernel) rfl), fun h => absurd h (by decide), fun h => absurd h (by decide), fun h => absurd rfl h⟩
theorem xfX5_20 : xFok RX5 (20, 3, 2, 0) := ⟨RX5, TX5, 7, tyX5, rfl, by decide, xiX5, tyX5_ok, nmX5, rfl, Or.inl (xT_at 73 (by decide +kernel) rfl), fun h => absurd h (by decide), fun h => absurd h (by decide), fun h => absurd rfl h⟩
theorem xfX5_23 : xFok RX5 (23, 3, 3, 0) := ⟨RX5, TX5, 7, tyX5, rfl, by decide, xiX5, tyX5_ok, nmX5, rfl, Or.inl (xT_at 74 (by decide +kernel) rfl), fun h => absurd h (by decide), fun h => absurd h (by decide), fun h => absurd rfl h⟩
theorem xfX5_26 : xFok RX5 (26, 3, 4, 0) := ⟨RX5, TX5, 7, tyX5, rfl, by decide, xiX5, tyX5_ok, nmX5, rfl, Or.inl (xT_at 75 (by decide +kernel) rfl), fun h => absurd h (by decide), fun h => absurd h (by decide), fun h => absurd rfl h⟩
theorem xfX5_30 : xFok RX5 (30, 3, 5, 0) := ⟨RX5, TX5, 7, tyX5, rfl, by decide, xiX5, tyX5_ok, nmX5, rfl, Or.inl (xT_at 76 (by decide +kernel) rfl), fun h => absurd h (by decide), fun h => absurd h (by decide), fun h => absurd rfl h⟩
theorem xfX5_45 : xFok RX5 (45, 3, 6, 1) := ⟨RX5, TX5, 7, tyX5, rfl, by decide, xiX5, tyX5_ok, nmX5, rfl, Or.inl (xT_at 77 (by decide +kernel) rfl), fun _ => ⟨rfl, rfl⟩, fun h => absurd h (by decide), fun _ => xT_at 77 (by decide +kernel) rfl⟩
def ftX5 : List xF := [(9, 3, 0, 0), (17, 3, 1, 0), (20, 3, 2, 0), (23, 3, 3, 0), (26, 3, 4, 0), (30, 3, 5, 0), (45, 3, 6, 1)]
theorem ftX5_ok : ∀ q ∈ ftX5, xFok RX5 q := List.forall_mem_cons.mpr ⟨xfX5_9, List.forall_mem_cons.mpr ⟨xfX5_17, List.forall_mem_cons.mpr ⟨xfX5_20, List.forall_mem_cons.mpr ⟨xfX5_23, List.forall_mem_cons.mpr ⟨xfX5_26, List.forall_mem_cons.mpr ⟨xfX5_30, List.forall_mem_cons.mpr ⟨xfX5_45, fun _ h => absurd h List.not_mem_nil⟩⟩⟩⟩⟩⟩⟩
theorem xfX6_9 : xFok RX6 (9, 4, 0, 0) := ⟨RX6, TX6, 6, tyX6, rfl, by decide, xiX6, tyX6_ok, nmX6, rfl, Or.inl (xT_at 119 (by decide +kernel) rfl), fun h => absurd h (by decide), fun h => absurd h (by decide), fun h => absurd rfl h⟩
theorem xfX6_15 : xFok RX6 (15, 4, 1, 0) := ⟨RX6, TX6, 6, tyX6, rfl, by decide, xiX6, tyX6_ok, nmX6, rfl, Or.inl (xT_at 120 (by decide +kernel) rfl), fun h => absurd h (by decide), fun h => absurd h (by decide), fun h => absurd rfl h⟩
theorem xfX6_18 : xFok RX6 (18, 4, 2, 0) := ⟨RX6, TX6, 6, tyX6, rfl, by decide, xiX6, tyX6_ok, nmX6, rfl, Or.inl (xT_at 121 (by decide +kernel) rfl), fun h => absurd h (by decide), fun h => absurd h (by decide), fun h => absurd rfl h⟩
theorem xfX6_21 : xFok RX6 (21, 4, 3, 0) := ⟨RX6, TX6, 6, tyX6, rfl, by decide, xiX6, tyX6_ok, nmX6, rfl, Or.inl (xT_at 122 (by decide +kernel) rfl), fun h => absurd h (by decide), fun h => absurd h (by decide), fun h => absurd rfl h⟩
theorem xfX6_24 : xFok RX6 (24, 4, 4, 0) := ⟨RX6, TX6, 6, tyX6, rfl, by decide, xiX6, tyX6_ok, nmX6, rfl, Or.inl (xT_at 123 (by decide +kernel) rfl), fun h => absurd h (by decide), fun h => absurd h (by decide), fun h => absurd rfl h⟩
theorem xfX6_27 : xFok RX6 (27, 4, 5, 1) := ⟨RX6, TX6, 6, tyX6, rfl, by decide, xiX6, tyX6_ok, nmX6, rfl, Or.inl (xT_at 125 (by decide +kernel) rfl), fun _ => ⟨rfl, rfl⟩, fun h => absurd h (by decide), fun _ => xT_at 125 (by decide +kernel) rfl⟩
def ftX6 : List xF := [(9, 4, 0, 0), (15, 4, 1, 0), (18, 4, 2, 0), (21, 4, 3, 0), (24, 4, 4, 0), (27, 4, 5, 1)]
theorem ftX6_ok : ∀ q ∈ ftX6, xFok RX6 q := List.forall_mem_cons.mpr ⟨xfX6_9, List.forall_mem_cons.mpr ⟨xfX6_15, List.forall_mem_cons.mpr ⟨xfX6_18, List.forall_mem_cons.mpr ⟨xfX6_21, List.forall_mem_cons.mpr ⟨xfX6_24, List.forall_mem_cons.mpr ⟨xfX6_27, fun _ h => absurd h List.not_mem_nil⟩⟩⟩⟩⟩⟩
theorem xfX8_11 : xFok RX8 (11, 5, 0, 0) := ⟨RX8, TX8, 4, tyX8, rfl, by decide, xiX8, tyX8_ok, nmX8, rfl, Or.inl (xT_at 32 (by decide +kernel) rfl), fun h => absurd h (by decide), fun h => absurd h (by decide), fun h => absurd rfl h⟩
theorem xfX8_15 : xFok RX8 (15, 5, 1, 0) := ⟨RX8, TX8, 4, tyX8, rfl, by decide, xiX8, tyX8_ok, nmX8, rfl, Or.inl (xT_at 33 (by decide +kernel) rfl), fun h => absurd h (by decide), fun h => absurd h (by decide), fun h => absurd rfl h⟩
theorem xfX8_24 : xFok RX8 (24, 5, 2, 0) := ⟨RX8, TX8, 4, tyX8, rfl, by decide, xiX8, tyX8_ok, nmX8, rfl, Or.inl (xT_at 34 (by decide +kernel) rfl), fun h => absurd h (by decide), fun h => absurd h (by decide), fun h => absurd rfl h⟩
theorem xfX8_28 : xFok RX8 (28, 5, 3, 1) := ⟨RX8, TX8, 4, tyX8, rfl, by decide, xiX8, tyX8_ok, nmX8, rfl, Or.inl (xT_at 35 (by decide +kernel) rfl), fun _ => ⟨rfl, rfl⟩, fun h => absurd h (by decide), fun _ => xT_at 35 (by decide +kernel) rfl⟩
def ftX8 : List xF := [(11, 5, 0, 0), (15, 5, 1, 0), (24, 5, 2, 0), (28, 5, 3, 1)]
theorem ftX8_ok : ∀ q ∈ ftX8, xFok RX8 q := List.forall_mem_cons.mpr ⟨xfX8_11, List.forall_mem_cons.mpr ⟨xfX8_15, List.forall_mem_cons.mpr ⟨xfX8_24, List.forall_mem_cons.mpr ⟨xfX8_28, fun _ h => absurd h List.not_mem_nil⟩⟩⟩⟩
theorem xfX10_14 : xFok RX10 (14, 6, 0, 0) := ⟨RX10, TX10, 17, tyX10, rfl, by decide, xiX10, tyX10_ok, nmX10, rfl, Or.inl (xT_at 188 (by decide +kernel) rfl), fun h => absurd h (by decide), fun h => absurd h (by decide), fun h => absurd rfl h⟩
theorem xfX10_18 : xFok RX10 (18, 6, 1, 0) := ⟨RX10, TX10, 17, tyX10, rfl, by decide, xiX10, tyX10_ok, nmX10, rfl, Or.inl (xT_at 189 (by decide +kernel) rfl), fun h => absurd h (by decide), fun h => absurd h (by decide), fun h => absurd rfl h⟩
theorem xfX10_24 : xFok RX10 (24, 6, 2, 0) := ⟨RX10, TX10, 17, tyX10, rfl, by decide, xiX10, tyX10_ok, nmX10, rfl, Or.inl (xT_at 190 (by decide +kernel) rfl), fun h => absurd h (by decide), fun h => absurd h (by decide), fun h => absurd rfl h⟩
theorem xfX10_28 : xFok RX10 (28, 6, 3, 0) := ⟨RX10, TX10, 17, tyX10, rfl, by decide, xiX10, tyX10_ok, nmX10, rfl, Or.inl (xT_at 191 (by decide +kernel) rfl), fun h => absurd h (by decide), fun h => absurd h (by decide), fun h => absurd rfl h⟩
theorem xfX10_34 : xFok RX10 (34, 6, 4, 0) := ⟨RX10, TX10, 17, tyX10, rfl, by decide, xiX10, tyX10_ok, nmX10, rfl, Or.inl (xT_at 192 (by decide +kernel) rfl), fun h => absurd h (by decide), fun h => absurd h (by decide), fun h => absurd rfl h⟩
theorem xfX10_41 : xFok RX10 (41, 6, 5, 0) := ⟨RX10, TX10, 17, tyX10, rfl, by decide, xiX10, tyX10_ok, nmX10, rfl, Or.inl (xT_at 193 (by decide +kernel) rfl), fun h => absurd h (by decide), fun h => absurd h (by decide), fun h => absurd rfl h⟩
theorem xfX10_48 : xFok RX10 (48, 6, 6, 0) := ⟨RX10, TX10, 17, tyX10, rfl, by decide, xiX10, tyX10_ok, nmX10, rfl, Or.inl (xT_at 194 (by decide +kernel) rfl), fun h => absurd h (by decide), fun h => absurd h (by decide), fun h => absurd rfl h⟩
theorem xfX10_55 : xFok RX10 (55, 6, 7, 0) := ⟨RX10, TX10, 17, tyX10, rfl, by decide, xiX10, tyX10_ok, nmX10, rfl, Or.inl (xT_at 195 (by decide +kernel) rfl), fun h => absurd h (by decide), fun h => absurd h (by decide), fun h => absurd rfl h⟩
theorem xfX10_59 : xFok RX10 (59, 6, 8, 0) := ⟨RX10, TX10, 17, tyX10, rfl, by decide, xiX10, tyX10_ok, nmX10, rfl, Or.inl (xT_at 196 (by decide +kernel) rfl), fun h => absurd h (by decide), fun h => absurd h (by decide), fun h => absurd rfl h⟩
theorem xfX10_63 : xFok RX10 (63, 6, 9, 0) := ⟨RX10, TX10, 17, tyX10, rfl, by decide, xiX10, tyX10_ok, nmX10, rfl, Or.inl (xT_at 197 (by decide +kernel) rfl), fun h => absurd h (by decide), fun h => absurd h (by decide), fun h => absurd rfl h⟩
theorem xfX10_66 : xFok RX10 (66, 6, 10, 0) := ⟨RX10, TX10, 17, tyX10, rfl, by decide, xiX10, tyX10_ok, nmX10, rfl, Or.inl (xT_at 198 (by decide +kernel) rfl), fun h => absurd h (by decide), fun h => absurd h (by decide), fun h => absurd rfl h⟩
theorem xfX10_69 : xFok RX10 (69, 6, 11, 0) := ⟨RX10, TX10, 17, tyX10, rfl, by decide, xiX10, tyX10_ok, nmX10, rfl, Or.inl (xT_at 199 (by decide +kernel) rfl), fun h => absurd h (by decide), fun h => absurd h (by decide), fun h => absurd rfl h⟩
theorem xfX10_72 : xFok RX10 (72, 6, 12, 0) := ⟨RX10, TX10, 17, tyX10, rfl, by decide, xiX10, tyX10_ok, nmX10, rfl, Or.inl (xT_at 200 (by decide +kernel) rfl), fun h => absurd h (by decide), fun h => absurd h (by decide), fun h => absurd rfl h⟩
theorem xfX10_75 : xFok RX10 (75, 6, 13, 0) := ⟨RX10, TX10, 17, tyX10, rfl, by decide, xiX10, tyX10_ok, nmX10, rfl, Or.inl (xT_at 201 (by decide +kernel) rfl), fun h => absurd h (by decide), fun h => absurd h (by decide), fun h => absurd rfl h⟩
theorem xfX10_78 : xFok RX10 (78, 6, 14, 0) := ⟨RX10, TX10, 17, tyX10, rfl, by decide, xiX10, tyX10_ok, nmX10, rfl, Or.inl (xT_at 202 (by decide +kernel) rfl), fun h => absurd h (by decide), fun h => absurd h (by decide), fun h => absurd rfl h⟩
theorem xfX10_81 : xFok RX10 (81, 6, 15, 0) := ⟨RX10, TX10, 17, tyX10, rfl, by decide, xiX10, tyX10_ok, nmX10, rfl, Or.inl (xT_at 203 (by decide +kernel) rfl), fun h => absurd h (by decide), fun h => absurd h (by decide), fun h => absurd rfl h⟩
theorem xfX10_84 : xFok RX10 (84, 6, 16, 0) := ⟨RX10, TX10, 17, tyX10, rfl, by decide, xiX10, tyX10_ok, nmX10, rfl, Or.inl (xT_at 204 (by decide +kernel) rfl), fun h => absurd h (by decide), fun h => absurd h (by decide), fun h => absurd rfl h⟩
theorem xfX10_211 : xFok RX10 (211, 4, 4, 0) := ⟨RX6, TX6, 6, tyX6, rfl, by decide, xiX6, tyX6_ok, nmX6, rfl, Or.inr ⟨"TransformRows", List.mem_of_getElem? (i := 124) (by decide +kernel)⟩, fun h => absurd h (by decide), fun h => absurd h (by decide), fun h => absurd rfl h⟩
theorem xfX10_235 : xFok RX10 (235, 0, 0, 0) := ⟨RX0, TX0, 4, tyX0, rfl, by decide, xiX0, tyX0_ok, nmX0, rfl, Or.inr ⟨"TransformRows", List.mem_of_getElem? (i := 175) (by decide +kernel)⟩, fun h => absurd h (by decide), fun h => absurd h (by decide), fun h => absurd rfl h⟩
def ftX10 : List xF := [(14, 6, 0, 0), (18, 6, 1, 0), (24, 6, 2, 0), (28, 6, 3, 0), (34, 6, 4, 0), (41, 6, 5, 0), (48, 6, 6, 0), (55, 6, 7, 0), (59, 6, 8, 0), (63, 6, 9, 0), (66, 6, 10, 0), (69, 6, 11, 0), (72, 6, 12, 0), (75, 6, 13, 0), (78, 6, 14, 0), (81, 6, 15, 0), (84, 6, 16, 0), (211, 4, 4, 0), (235, 0, 0, 0)]
theorem ftX10_ok : ∀ q ∈ ftX10, xFok RX10 q := List.forall_mem_cons.mpr ⟨xfX10_14, List.forall_mem_cons.mpr ⟨xfX10_18, List.forall_mem_cons.mpr ⟨xfX10_24, List.forall_mem_cons.mpr ⟨xfX10_28, List.forall_mem_cons.mpr ⟨xfX10_34, List.forall_mem_cons.mpr ⟨xfX10_41, List.forall_mem_cons.mpr ⟨xfX10_48, List.forall_mem_cons.mpr ⟨xfX10_55, List.forall_mem_cons.mpr ⟨xfX10_59, List.forall_mem_cons.mpr ⟨xfX10_63, List.forall_mem_cons.mpr ⟨xfX10_66, List.forall_mem_cons.mpr ⟨xfX10_69, List.forall_mem_cons.mpr ⟨xfX10_72, List.forall_mem_cons.mpr ⟨xfX10_75, List.forall_mem_cons.mpr ⟨xfX10_78, List.forall_mem_cons.mpr ⟨xfX10_81, List.forall_mem_cons.mpr ⟨xfX10_84, List.forall_mem_cons.mpr ⟨xfX10_211, List.forall_mem_cons.mpr ⟨xfX10_235, fun _ h => absurd h List.not_mem_nil⟩⟩⟩⟩⟩⟩⟩⟩⟩⟩⟩⟩⟩⟩⟩⟩⟩⟩⟩
theorem xfX11_7 : xFok RX11 (7, 7, 0, 0) := ⟨RX11, TX11, 18, tyX11, rfl, by decide, xiX11, tyX11_ok, nmX11, rfl, Or.inl (xT_at 623 (by decide +kernel) rfl), fun h => absurd h (by decide), fun h => absurd h (by decide), fun h => absurd rfl h⟩
theorem xfX11_13 : xFok RX11 (13, 7, 1, 0) := ⟨RX11, TX11, 18, tyX11, rfl, by decide, xiX11, tyX11_ok, nmX11, rfl, Or.inl (xT_at 624 (by decide +kernel) rfl), fun h => absurd h (by decide), fun h => absurd h (by decide), fun h => absurd rfl h⟩
theorem xfX11_16 : xFok RX11 (16, 7, 3, 0) := ⟨RX11, TX11, 18, tyX11, rfl, by decide, xiX11, tyX11_ok, nmX11, rfl, Or.inl (xT_at 626 (by decide +kernel) rfl), fun h => absurd h (by decide), fun h => absurd h (by decide), fun h => absurd rfl h⟩
theorem xfX11_19 : xFok RX11 (19, 7, 5, 0) := ⟨RX11, TX11, 18, tyX11, rfl, by decide, xiX11, tyX11_ok, nmX11, rfl, Or.inl (xT_at 628 (by decide +kernel) rfl), fun h => absurd h (by decide), fun h => absurd h (by decide), fun h => absurd rfl h⟩
theorem xfX11_22 : xFok RX11 (22, 7, 7, 0) := ⟨RX11, TX11, 18, tyX11, rfl, by decide, xiX11, tyX11_ok, nmX11, rfl, Or.inl (xT_at 630 (by decide +kernel) rfl), fun h => absurd h (by decide), fun h => absurd h (by decide), fun h => absurd rfl h⟩
theorem xfX11_25 : xFok RX11 (25, 7, 9, 0) := ⟨RX11, TX11, 18, tyX11, rfl, by decide, xiX11, tyX11_ok, nmX11, rfl, Or.inl (xT_at 632 (by decide +kernel) rfl), fun h => absurd h (by decide), fun h => absurd h (by decide), fun h => absurd rfl h⟩
theorem xfX11_28 : xFok RX11 (28, 7, 10, 1) := ⟨RX11, TX11, 18, tyX11, rfl, by decide, xiX11, tyX11_ok, nmX11, rfl, Or.inl (xT_at 633 (by decide +kernel) rfl), fun _ => ⟨rfl, rfl⟩, fun h => absurd h (by decide), fun _ => xT_at 633 (by decide +kernel) rfl⟩
theorem xfX11_32 : xFok RX11 (32, 7, 11, 0) := ⟨RX11, TX11, 18, tyX11, rfl, by decide, xiX11, tyX11_ok, nmX11, rfl, Or.inl (xT_at 634 (by decide +kernel) rfl), fun h => absurd h (by decide), fun h => absurd h (by decide), fun h => absurd rfl h⟩
theorem xfX11_36 : xFok RX11 (36, 7, 12, 0) := ⟨RX11, TX11, 18, tyX11, rfl, by decide, xiX11, tyX11_ok, nmX11, rfl, Or.inl (xT_at 635 (by decide +kernel) rfl), fun h => absurd h (by decide), fun h => absurd h (by decide), fun h => absurd rfl h⟩
theorem xfX11_39 : xFok RX11 (39, 7, 13, 0) := ⟨RX11, TX11, 18, tyX11, rfl, by decide, xiX11, tyX11_ok, nmX11, rfl, Or.inl (xT_at 636 (by decide +kernel) rfl), fun h => absurd h (by decide), fun h => absurd h (by decide), fun h => absurd rfl h⟩
theorem xfX11_42 : xFok RX11 (42, 7, 14, 0) := ⟨RX11, TX11, 18, tyX11, rfl, by decide, xiX11, tyX11_ok, nmX11, rfl, Or.inl (xT_at 637 (by decide +kernel) rfl), fun h => absurd h (by decide), fun h => absurd h (by decide), fun h => absurd rfl h⟩
theorem xfX11_55 : xFok RX11 (55, 7, 2, 1) := ⟨RX11, TX11, 18, tyX11, rfl, by decide, xiX11, tyX11_ok, nmX11, rfl, Or.inl (xT_at 625 (by decide +kernel) rfl), fun _ => ⟨rfl, rfl⟩, fun h => absurd h (by decide), fun _ => xT_at 625 (by decide +kernel) rfl⟩
theorem xfX11_105 : xFok RX11 (105, 7, 4, 1) := ⟨RX11, TX11, 18, tyX11, rfl, by decide, xiX11, tyX11_ok, nmX11, rfl, Or.inl (xT_at 627 (by decide +kernel) rfl), fun _ => ⟨rfl, rfl⟩, fun h => absurd h (by decide), fun _ => xT_at 627 (by decide +kernel) rfl⟩
theorem xfX11_108 : xFok RX11 (108, 7, 6, 1) := ⟨RX11, TX11, 18, tyX11, rfl, by decide, xiX11, tyX11_ok, nmX11, rfl, Or.inl (xT_at 629 (by decide +kernel) rfl), fun _ => ⟨rfl, rfl⟩, fun h => absurd h (by decide), fun _ => xT_at 629 (by decide +kernel) rfl⟩
theorem xfX11_136 : xFok RX11 (136, 7, 15, 2) := ⟨RX11, TX11, 18, tyX11, rfl, by decide, xiX11, tyX11_ok, nmX11, rfl, Or.inl (xT_at 638 (by decide +kernel) rfl), fun h => absurd h (by decide), fun _ => ⟨rfl, rfl⟩, fun _ => xT_at 638 (by decide +kernel) rfl⟩
theorem xfX11_156 : xFok RX11 (156, 7, 16, 2) := ⟨RX11, TX11, 18, tyX11, rfl, by decide, xiX11, tyX11_ok, nmX11, rfl, Or.inl (xT_at 639 (by decide +kernel) rfl), fun h => absurd h (by decide), fun _ => ⟨rfl, rfl⟩, fun _ => xT_at 639 (by decide +kernel) rfl⟩
theorem xfX11_159 : xFok RX11 (159, 7, 17, 2) := ⟨RX11, TX11, 18, tyX11, rfl, by decide, xiX11, tyX11_ok, nmX11, rfl, Or.inl (xT_at 640 (by decide +kernel) rfl), fun h => absurd h (by decide), fun _ => ⟨rfl, rfl⟩, fun _ => xT_at 640 (by decide +kernel) rfl⟩
theorem xfX11_259 : xFok RX11 (259, 7, 8, 1) := ⟨RX11, TX11, 18, tyX11, rfl, by decide, xiX11, tyX11_ok, nmX11, rfl, Or.inl (xT_at 631 (by decide +kernel) rfl), fun _ => ⟨rfl, rfl⟩, fun h => absurd h (by decide), fun _ => xT_at 631 (by decide +kernel) rfl⟩
def ftX11 : List xF := [(7, 7, 0, 0), (13, 7, 1, 0), (16, 7, 3, 0), (19, 7, 5, 0), (22, 7, 7, 0), (25, 7, 9, 0), (28, 7, 10, 1), (32, 7, 11, 0), (36, 7, 12, 0), (39, 7, 13, 0), (42, 7, 14, 0), (55, 7, 2, 1), (105, 7, 4, 1), (108, 7, 6, 1), (136, 7, 15, 2), (156, 7, 16, 2), (159, 7, 17, 2), (259, 7, 8, 1)]
theorem ftX11_ok : ∀ q ∈ ftX11, xFok RX11 q := List.forall_mem_cons.mpr ⟨xfX11_7, List.forall_mem_cons.mpr ⟨xfX11_13, List.forall_mem_cons.mpr ⟨xfX11_16, List.forall_mem_cons.mpr ⟨xfX11_19, List.forall_mem_cons.mpr ⟨xfX11_22, List.forall_mem_cons.mpr ⟨xfX11_25, List.forall_mem_cons.mpr ⟨xfX11_28, List.forall_mem_cons.mpr ⟨xfX11_32, List.forall_mem_cons.mpr ⟨xfX11_36, List.forall_mem_cons.mpr ⟨xfX11_39, List.forall_mem_cons.mpr ⟨xfX11_42, List.forall_mem_cons.mpr ⟨xfX11_55, List.forall_mem_cons.mpr ⟨xfX11_105, List.forall_mem_cons.mpr ⟨xfX11_108, List.forall_mem_cons.mpr ⟨xfX11_136, List.forall_mem_cons.mpr ⟨xfX11_156, List.forall_mem_cons.mpr ⟨xfX11_159, List.forall_mem_cons.mpr ⟨xfX11_259, fun _ h => absurd h List.not_mem_nil⟩⟩⟩⟩⟩⟩⟩⟩⟩⟩⟩⟩⟩⟩⟩⟩⟩⟩
def ctX10 : List (Nat × Int64) := [(129, -9223372036854775808), (142, 1000), (217, 500)]
theorem ctX10_ok : ∀ q ∈ ctX10, Cond.constantLong RX10 q.1 q.2 ∈ xT := List.forall_mem_cons.mpr ⟨xT_at 336 (by decide +kernel) rfl, List.forall_mem_cons.mpr ⟨xT_at 356 (by decide +kernel) rfl, List.forall_mem_cons.mpr ⟨xT_at 252 (by decide +kernel) rfl, fun _ h => absurd h List.not_mem_nil⟩⟩⟩
def ctX7 : List (Nat × Int64) := [(13, 2), (29, 4)]
theorem ctX7_ok : ∀ q ∈ ctX7, Cond.constantLong RX7 q.1 q.2 ∈ xT := List.forall_mem_cons.mpr ⟨xT_at 326 (by decide +kernel) rfl, List.forall_mem_cons.mpr ⟨xT_at 331 (by decide +kernel) rfl, fun _ h => absurd h List.not_mem_nil⟩⟩
def ctX5 : List (Nat × Int64) := [(95, 2), (101, -2), (134, 750000)]
theorem ctX5_ok : ∀ q ∈ ctX5, Cond.constantLong RX5 q.1 q.2 ∈ xT := List.forall_mem_cons.mpr ⟨xT_at 400 (by decide +kernel) rfl, List.forall_mem_cons.mpr ⟨xT_at 405 (by decide +kernel) rfl, List.forall_mem_cons.mpr ⟨xT_at 436 (by decide +kernel) rfl, fun _ h => absurd h List.not_mem_nil⟩⟩⟩
def ctX1 : List (Nat × Int64) := [(45, 2)]
theorem ctX1_ok : ∀ q ∈ ctX1, Cond.constantLong RX1 q.1 q.2 ∈ xT := List.forall_mem_cons.mpr ⟨xT_at 489 (by decide +kernel) rfl, fun _ h => absurd h List.not_mem_nil⟩
def ctX6 : List (Nat × Int64) := [(51, 1500)]
theorem ctX6_ok : ∀ q ∈ ctX6, Cond.constantLong RX6 q.1 q.2 ∈ xT := List.forall_mem_cons.mpr ⟨xT_at 543 (by decide +kernel) rfl, fun _ h => absurd h List.not_mem_nil⟩
def ctX2 : List (Nat × Int64) := [(56, 2)]
theorem ctX2_ok : ∀ q ∈ ctX2, Cond.constantLong RX2 q.1 q.2 ∈ xT := List.forall_mem_cons.mpr ⟨xT_at 569 (by decide +kernel) rfl, fun _ h => absurd h List.not_mem_nil⟩
def ctX0 : List (Nat × Int64) := [(54, 500)]
theorem ctX0_ok : ∀ q ∈ ctX0, Cond.constantLong RX0 q.1 q.2 ∈ xT := List.forall_mem_cons.mpr ⟨xT_at 605 (by decide +kernel) rfl, fun _ h => absurd h List.not_mem_nil⟩
def ctX11 : List (Nat × Int64) := [(49, -1), (51, 500), (53, -500), (74, 5), (76, 2), (93, 4), (103, -9223372036854775808), (118, -2), (169, 2147483647), (171, 2147483629), (173, 2147483587), (194, 8), (196, -1000), (198, 1000), (249, -1500), (251, 1500), (257, 60), (262, 48)]
theorem ctX11_ok : ∀ q ∈ ctX11, Cond.constantLong RX11 q.1 q.2 ∈ xT := List.forall_mem_cons.mpr ⟨xT_at 702 (by decide +kernel) rfl, List.forall_mem_cons.mpr ⟨xT_at 687 (by decide +kernel) rfl, List.forall_mem_cons.mpr ⟨xT_at 686 (by decide +kernel) rfl, List.forall_mem_cons.mpr ⟨xT_at 715 (by decide +kernel) rfl, List.forall_mem_cons.mpr ⟨xT_at 716 (by decide +kernel) rfl, List.forall_mem_cons.mpr ⟨xT_at 745 (by decide +kernel) rfl, List.forall_mem_cons.mpr ⟨xT_at 758 (by decide +kernel) rfl, List.forall_mem_cons.mpr ⟨xT_at 782 (by decide +kernel) rfl, List.forall_mem_cons.mpr ⟨xT_at 813 (by decide +kernel) rfl, List.forall_mem_cons.mpr ⟨xT_at 814 (by decide +kernel) rfl, List.forall_mem_cons.mpr ⟨xT_at 815 (by decide +kernel) rfl, List.forall_mem_cons.mpr ⟨xT_at 767 (by decide +kernel) rfl, List.forall_mem_cons.mpr ⟨xT_at 768 (by decide +kernel) rfl, List.forall_mem_cons.mpr ⟨xT_at 769 (by decide +kernel) rfl, List.forall_mem_cons.mpr ⟨xT_at 927 (by decide +kernel) rfl, List.forall_mem_cons.mpr ⟨xT_at 928 (by decide +kernel) rfl, List.forall_mem_cons.mpr ⟨xT_at 945 (by decide +kernel) rfl, List.forall_mem_cons.mpr ⟨xT_at 954 (by decide +kernel) rfl, fun _ h => absurd h List.not_mem_nil⟩⟩⟩⟩⟩⟩⟩⟩⟩⟩⟩⟩⟩⟩⟩⟩⟩⟩
def rX0_restart : Room := { frames := 4, cells := 0, slots := 0, locals := 92 }
theorem yX0_restart_ok : xY yX0_restart cX0_restart 1 (none : Option Jvm.ClassFile.FieldType) 0 := ⟨xT_at 150 (by decide +kernel) rfl, xT_at 8 (by decide +kernel) rfl, by decide +kernel, by decide +kernel, by decide +kernel⟩
theorem ivX0_restart : Cond.instanceMethod yX0_restart ∈ xT := xT_at 149 (by decide +kernel) rfl
theorem slX0_restart : Cond.selects yX0_restart.cls yX0_restart yX0_restart ∈ xT := xT_priv (n := 4) 0 (by decide +kernel)
def rX8_clear : Room := { frames := 0, cells := 0, slots := 0, locals := 0 }
theorem yX8_clear_ok : xY yX8_clear cX8_clear 1 (none : Option Jvm.ClassFile.FieldType) 0 := ⟨xT_at 154 (by decide +kernel) rfl, xT_at 2 (by decide +kernel) rfl, by decide +kernel, by decide +kernel, by decide +kernel⟩
theorem ivX8_clear : Cond.instanceMethod yX8_clear ∈ xT := xT_at 152 (by decide +kernel) rfl
theorem slX8_clear : Cond.selects yX8_clear.cls yX8_clear yX8_clear ∈ xT := xT_at 153 (by decide +kernel) rfl
def rX9_putRow : Room := { frames := 0, cells := 0, slots := 0, locals := 0 }
theorem yX9_putRow_ok : xY yX9_putRow cX9_putRow 8 (none : Option Jvm.ClassFile.FieldType) 5 := ⟨xT_at 157 (by decide +kernel) rfl, xT_at 9 (by decide +kernel) rfl, by decide +kernel, by decide +kernel, by decide +kernel⟩
theorem ssX9_putRow : Cond.static yX9_putRow ∈ xT := xT_at 156 (by decide +kernel) rfl
def rX8_keep : Room := { frames := 3, cells := 0, slots := 0, locals := 68 }
theorem yX8_keep_ok : xY yX8_keep cX8_keep 5 (some .int) 2 := ⟨xT_at 161 (by decide +kernel) rfl, xT_at 2 (by decide +kernel) rfl, by decide +kernel, by decide +kernel, by decide +kernel⟩
theorem ivX8_keep : Cond.instanceMethod yX8_keep ∈ xT := xT_at 159 (by decide +kernel) rfl
theorem slX8_keep : Cond.selects yX8_keep.cls yX8_keep yX8_keep ∈ xT := xT_at 160 (by decide +kernel) rfl
def rX8_find : Room := { frames := 2, cells := 0, slots := 0, locals := 45 }
theorem yX8_find_ok : xY yX8_find cX8_find 4 (some .int) 2 := ⟨xT_at 165 (by decide +kernel) rfl, xT_at 2 (by decide +kernel) rfl, by decide +kernel, by decide +kernel, by decide +kernel⟩
theorem ivX8_find : Cond.instanceMethod yX8_find ∈ xT := xT_at 163 (by decide +kernel) rfl
theorem slX8_find : Cond.selects yX8_find.cls yX8_find yX8_find ∈ xT := xT_at 164 (by decide +kernel) rfl
def rX8_isAt : Room := { frames := 1, cells := 0, slots := 0, locals := 22 }
theorem yX8_isAt_ok : xY yX8_isAt cX8_isAt 4 (some .boolean) 2 := ⟨xT_at 169 (by decide +kernel) rfl, xT_at 2 (by decide +kernel) rfl, by decide +kernel, by decide +kernel, by decide +kernel⟩
theorem ivX8_isAt : Cond.instanceMethod yX8_isAt ∈ xT := xT_at 168 (by decide +kernel) rfl
theorem slX8_isAt : Cond.selects yX8_isAt.cls yX8_isAt yX8_isAt ∈ xT := xT_priv (n := 4) 1 (by decide +kernel)
def rX8_cell : Room := { frames := 0, cells := 0, slots := 0, locals := 0 }
theorem yX8_cell_ok : xY yX8_cell cX8_cell 3 (some .int) 2 := ⟨xT_at 173 (by decide +kernel) rfl, xT_at 2 (by decide +kernel) rfl, by decide +kernel, by decide +kernel, by decide +kernel⟩
theorem ivX8_cell : Cond.instanceMethod yX8_cell ∈ xT := xT_at 171 (by decide +kernel) rfl
theorem slX8_cell : Cond.selects yX8_cell.cls yX8_cell yX8_cell ∈ xT := xT_at 172 (by decide +kernel) rfl
def rX10_point : Room := { frames := 7, cells := 0, slots := 0, locals := 162 }
theorem yX10_point_ok : xY yX10_point cX10_point 4 (some .int) 3 := ⟨xT_at 243 (by decide +kernel) rfl, xT_at 1 (by decide +kernel) rfl, by decide +kernel, by decide +kernel, by decide +kernel⟩
theorem ivX10_point : Cond.instanceMethod yX10_point ∈ xT := xT_at 241 (by decide +kernel) rfl
theorem slX10_point : Cond.selects yX10_point.cls yX10_point yX10_point ∈ xT := xT_at 242 (by decide +kernel) rfl
def rX10_keepTriple : Room := { frames := 6, cells := 0, slots := 0, locals := 138 }
theorem yX10_keepTriple_ok : xY yX10_keepTriple cX10_keepTriple 5 (some .int) 4 := ⟨xT_at 247 (by decide +kernel) rfl, xT_at 1 (by decide +kernel) rfl, by decide +kernel, by decide +kernel, by decide +kernel⟩
theorem ivX10_keepTriple : Cond.instanceMethod yX10_keepTriple ∈ xT := xT_at 246 (by decide +kernel) rfl
theorem slX10_keepTriple : Cond.selects yX10_keepTriple.cls yX10_keepTriple yX10_keepTriple ∈ xT := xT_priv (n := 17) 2 (by decide +kernel)
def rX10_keepGiven : Room := { frames := 5, cells := 0, slots := 0, locals := 114 }
theorem yX10_keepGiven_ok : xY yX10_keepGiven cX10_keepGiven 5 (some .int) 2 := ⟨xT_at 251 (by decide +kernel) rfl, xT_at 1 (by decide +kernel) rfl, by decide +kernel, by decide +kernel, by decide +kernel⟩
theorem ivX10_keepGiven : Cond.instanceMethod yX10_keepGiven ∈ xT := xT_at 250 (by decide +kernel) rfl
theorem slX10_keepGiven : Cond.selects yX10_keepGiven.cls yX10_keepGiven yX10_keepGiven ∈ xT := xT_priv (n := 17) 3 (by decide +kernel)
def rX10_beyond : Room := { frames := 0, cells := 0, slots := 0, locals := 0 }
theorem yX10_beyond_ok : xY yX10_beyond cX10_beyond 4 (some .boolean) 2 := ⟨xT_at 255 (by decide +kernel) rfl, xT_at 1 (by decide +kernel) rfl, by decide +kernel, by decide +kernel, by decide +kernel⟩
theorem ssX10_beyond : Cond.static yX10_beyond ∈ xT := xT_at 254 (by decide +kernel) rfl
def rX10_keepObject : Room := { frames := 4, cells := 0, slots := 0, locals := 92 }
theorem yX10_keepObject_ok : xY yX10_keepObject cX10_keepObject 3 (some .int) 2 := ⟨xT_at 259 (by decide +kernel) rfl, xT_at 1 (by decide +kernel) rfl, by decide +kernel, by decide +kernel, by decide +kernel⟩
theorem ivX10_keepObject : Cond.instanceMethod yX10_keepObject ∈ xT := xT_at 258 (by decide +kernel) rfl
theorem slX10_keepObject : Cond.selects yX10_keepObject.cls yX10_keepObject yX10_keepObject ∈ xT := xT_priv (n := 17) 4 (by decide +kernel)
def rX3_reduce : Room := { frames := 2, cells := 0, slots := 0, locals := 51 }
theorem yX3_reduce_ok : xY yX3_reduce cX3_reduce 11 (some .boolean) 2 := ⟨xT_at 262 (by decide +kernel) rfl, xT_at 11 (by decide +kernel) rfl, by decide +kernel, by decide +kernel, by decide +kernel⟩
theorem ssX3_reduce : Cond.static yX3_reduce ∈ xT := xT_at 261 (by decide +kernel) rfl
def rX3_divisor : Room := { frames := 1, cells := 0, slots := 0, locals := 21 }
theorem yX3_divisor_ok : xY yX3_divisor cX3_divisor 11 (some .long) 2 := ⟨xT_at 265 (by decide +kernel) rfl, xT_at 11 (by decide +kernel) rfl, by decide +kernel, by decide +kernel, by decide +kernel⟩
theorem ssX3_divisor : Cond.static yX3_divisor ∈ xT := xT_at 264 (by decide +kernel) rfl
def rX10_line : Room := { frames := 7, cells := 0, slots := 0, locals := 162 }
theorem yX10_line_ok : xY yX10_line cX10_line 4 (some .int) 3 := ⟨xT_at 274 (by decide +kernel) rfl, xT_at 1 (by decide +kernel) rfl, by decide +kernel, by decide +kernel, by decide +kernel⟩
theorem ivX10_line : Cond.instanceMethod yX10_line ∈ xT := xT_at 272 (by decide +kernel) rfl
theorem slX10_line : Cond.selects yX10_line.cls yX10_line yX10_line ∈ xT := xT_at 273 (by decide +kernel) rfl
def rX10_conic : Room := { frames := 6, cells := 0, slots := 0, locals := 138 }
theorem yX10_conic_ok : xY yX10_conic cX10_conic 7 (some .int) 6 := ⟨xT_at 278 (by decide +kernel) rfl, xT_at 1 (by decide +kernel) rfl, by decide +kernel, by decide +kernel, by decide +kernel⟩
theorem ivX10_conic : Cond.instanceMethod yX10_conic ∈ xT := xT_at 276 (by decide +kernel) rfl
theorem slX10_conic : Cond.selects yX10_conic.cls yX10_conic yX10_conic ∈ xT := xT_at 277 (by decide +kernel) rfl
def rX10_number : Room := { frames := 2, cells := 0, slots := 0, locals := 42 }
theorem yX10_number_ok : xY yX10_number cX10_number 5 (some .int) 2 := ⟨xT_at 282 (by decide +kernel) rfl, xT_at 1 (by decide +kernel) rfl, by decide +kernel, by decide +kernel, by decide +kernel⟩
theorem ivX10_number : Cond.instanceMethod yX10_number ∈ xT := xT_at 280 (by decide +kernel) rfl
theorem slX10_number : Cond.selects yX10_number.cls yX10_number yX10_number ∈ xT := xT_at 281 (by decide +kernel) rfl
def rX8_sortOf : Room := { frames := 1, cells := 0, slots := 0, locals := 21 }
theorem yX8_sortOf_ok : xY yX8_sortOf cX8_sortOf 2 (some .int) 1 := ⟨xT_at 286 (by decide +kernel) rfl, xT_at 2 (by decide +kernel) rfl, by decide +kernel, by decide +kernel, by decide +kernel⟩
theorem ivX8_sortOf : Cond.instanceMethod yX8_sortOf ∈ xT := xT_at 284 (by decide +kernel) rfl
theorem slX8_sortOf : Cond.selects yX8_sortOf.cls yX8_sortOf yX8_sortOf ∈ xT := xT_at 285 (by decide +kernel) rfl
def rX8_has : Room := { frames := 0, cells := 0, slots := 0, locals := 0 }
theorem yX8_has_ok : xY yX8_has cX8_has 2 (some .boolean) 1 := ⟨xT_at 290 (by decide +kernel) rfl, xT_at 2 (by decide +kernel) rfl, by decide +kernel, by decide +kernel, by decide +kernel⟩
theorem ivX8_has : Cond.instanceMethod yX8_has ∈ xT := xT_at 288 (by decide +kernel) rfl
theorem slX8_has : Cond.selects yX8_has.cls yX8_has yX8_has ∈ xT := xT_at 289 (by decide +kernel) rfl
def rX10_join : Room := { frames := 5, cells := 0, slots := 0, locals := 114 }
theorem yX10_join_ok : xY yX10_join cX10_join 4 (some .int) 2 := ⟨xT_at 295 (by decide +kernel) rfl, xT_at 1 (by decide +kernel) rfl, by decide +kernel, by decide +kernel, by decide +kernel⟩
theorem ivX10_join : Cond.instanceMethod yX10_join ∈ xT := xT_at 293 (by decide +kernel) rfl
theorem slX10_join : Cond.selects yX10_join.cls yX10_join yX10_join ∈ xT := xT_at 294 (by decide +kernel) rfl
def rX8_load : Room := { frames := 1, cells := 0, slots := 0, locals := 22 }
theorem yX8_load_ok : xY yX8_load cX8_load 4 (none : Option Jvm.ClassFile.FieldType) 2 := ⟨xT_at 299 (by decide +kernel) rfl, xT_at 2 (by decide +kernel) rfl, by decide +kernel, by decide +kernel, by decide +kernel⟩
theorem ivX8_load : Cond.instanceMethod yX8_load ∈ xT := xT_at 297 (by decide +kernel) rfl
theorem slX8_load : Cond.selects yX8_load.cls yX8_load yX8_load ∈ xT := xT_at 298 (by decide +kernel) rfl
def rX7_wedge : Room := { frames := 1, cells := 0, slots := 0, locals := 22 }
theorem yX7_wedge_ok : xY yX7_wedge cX7_wedge 3 (none : Option Jvm.ClassFile.FieldType) 3 := ⟨xT_at 302 (by decide +kernel) rfl, xT_at 12 (by decide +kernel) rfl, by decide +kernel, by decide +kernel, by decide +kernel⟩
theorem ssX7_wedge : Cond.static yX7_wedge ∈ xT := xT_at 301 (by decide +kernel) rfl
def rX7_wedgeCell : Room := { frames := 0, cells := 0, slots := 0, locals := 0 }
theorem yX7_wedgeCell_ok : xY yX7_wedgeCell cX7_wedgeCell 3 (some .long) 3 := ⟨xT_at 305 (by decide +kernel) rfl, xT_at 12 (by decide +kernel) rfl, by decide +kernel, by decide +kernel, by decide +kernel⟩
theorem ssX7_wedgeCell : Cond.static yX7_wedgeCell ∈ xT := xT_at 304 (by decide +kernel) rfl
def rX10_on : Room := { frames := 2, cells := 0, slots := 0, locals := 45 }
theorem yX10_on_ok : xY yX10_on cX10_on 4 (some .int) 2 := ⟨xT_at 309 (by decide +kernel) rfl, xT_at 1 (by decide +kernel) rfl, by decide +kernel, by decide +kernel, by decide +kernel⟩
theorem ivX10_on : Cond.instanceMethod yX10_on ∈ xT := xT_at 307 (by decide +kernel) rfl
theorem slX10_on : Cond.selects yX10_on.cls yX10_on yX10_on ∈ xT := xT_at 308 (by decide +kernel) rfl
def rX7_dot : Room := { frames := 0, cells := 0, slots := 0, locals := 0 }
theorem yX7_dot_ok : xY yX7_dot cX7_dot 2 (some .long) 2 := ⟨xT_at 312 (by decide +kernel) rfl, xT_at 12 (by decide +kernel) rfl, by decide +kernel, by decide +kernel, by decide +kernel⟩
theorem ssX7_dot : Cond.static yX7_dot ∈ xT := xT_at 311 (by decide +kernel) rfl
def rX7_conicAt : Room := { frames := 0, cells := 0, slots := 0, locals := 0 }
theorem yX7_conicAt_ok : xY yX7_conicAt cX7_conicAt 2 (some .long) 2 := ⟨xT_at 315 (by decide +kernel) rfl, xT_at 12 (by decide +kernel) rfl, by decide +kernel, by decide +kernel, by decide +kernel⟩
theorem ssX7_conicAt : Cond.static yX7_conicAt ∈ xT := xT_at 314 (by decide +kernel) rfl
def rX10_shape : Room := { frames := 3, cells := 0, slots := 0, locals := 73 }
theorem yX10_shape_ok : xY yX10_shape cX10_shape 2 (some .int) 1 := ⟨xT_at 319 (by decide +kernel) rfl, xT_at 1 (by decide +kernel) rfl, by decide +kernel, by decide +kernel, by decide +kernel⟩
theorem ivX10_shape : Cond.instanceMethod yX10_shape ∈ xT := xT_at 317 (by decide +kernel) rfl
theorem slX10_shape : Cond.selects yX10_shape.cls yX10_shape yX10_shape ∈ xT := xT_at 318 (by decide +kernel) rfl
def rX7_shapeOf : Room := { frames := 2, cells := 0, slots := 0, locals := 48 }
theorem yX7_shapeOf_ok : xY yX7_shapeOf cX7_shapeOf 6 (some .int) 2 := ⟨xT_at 322 (by decide +kernel) rfl, xT_at 12 (by decide +kernel) rfl, by decide +kernel, by decide +kernel, by decide +kernel⟩
theorem ssX7_shapeOf : Cond.static yX7_shapeOf ∈ xT := xT_at 321 (by decide +kernel) rfl
def rX7_evenTable : Room := { frames := 1, cells := 0, slots := 0, locals := 27 }
theorem yX7_evenTable_ok : xY yX7_evenTable cX7_evenTable 2 (none : Option Jvm.ClassFile.FieldType) 2 := ⟨xT_at 325 (by decide +kernel) rfl, xT_at 12 (by decide +kernel) rfl, by decide +kernel, by decide +kernel, by decide +kernel⟩
theorem ssX7_evenTable : Cond.static yX7_evenTable ∈ xT := xT_at 324 (by decide +kernel) rfl
def rX9_determinant : Room := { frames := 0, cells := 0, slots := 0, locals := 0 }
theorem yX9_determinant_ok : xY yX9_determinant cX9_determinant 1 (some .long) 1 := ⟨xT_at 330 (by decide +kernel) rfl, xT_at 9 (by decide +kernel) rfl, by decide +kernel, by decide +kernel, by decide +kernel⟩
theorem ssX9_determinant : Cond.static yX9_determinant ∈ xT := xT_at 329 (by decide +kernel) rfl
def rX10_cross : Room := { frames := 3, cells := 0, slots := 0, locals := 89 }
theorem yX10_cross_ok : xY yX10_cross cX10_cross 7 (some .long) 5 := ⟨xT_at 335 (by decide +kernel) rfl, xT_at 1 (by decide +kernel) rfl, by decide +kernel, by decide +kernel, by decide +kernel⟩
theorem ivX10_cross : Cond.instanceMethod yX10_cross ∈ xT := xT_at 333 (by decide +kernel) rfl
theorem slX10_cross : Cond.selects yX10_cross.cls yX10_cross yX10_cross ∈ xT := xT_at 334 (by decide +kernel) rfl
def rX10_crossRatio : Room := { frames := 2, cells := 0, slots := 0, locals := 51 }
theorem yX10_crossRatio_ok : xY yX10_crossRatio cX10_crossRatio 19 (some .long) 1 := ⟨xT_at 340 (by decide +kernel) rfl, xT_at 1 (by decide +kernel) rfl, by decide +kernel, by decide +kernel, by decide +kernel⟩
theorem ivX10_crossRatio : Cond.instanceMethod yX10_crossRatio ∈ xT := xT_at 339 (by decide +kernel) rfl
theorem slX10_crossRatio : Cond.selects yX10_crossRatio.cls yX10_crossRatio yX10_crossRatio ∈ xT := xT_priv (n := 17) 5 (by decide +kernel)
def rX10_give : Room := { frames := 1, cells := 0, slots := 0, locals := 21 }
theorem yX10_give_ok : xY yX10_give cX10_give 2 (some .int) 1 := ⟨xT_at 346 (by decide +kernel) rfl, xT_at 1 (by decide +kernel) rfl, by decide +kernel, by decide +kernel, by decide +kernel⟩
theorem ivX10_give : Cond.instanceMethod yX10_give ∈ xT := xT_at 344 (by decide +kernel) rfl
theorem slX10_give : Cond.selects yX10_give.cls yX10_give yX10_give ∈ xT := xT_at 345 (by decide +kernel) rfl
def rX4_append : Room := { frames := 0, cells := 0, slots := 0, locals := 0 }
theorem yX4_append_ok : xY yX4_append cX4_append 2 (some .int) 1 := ⟨xT_at 351 (by decide +kernel) rfl, xT_at 4 (by decide +kernel) rfl, by decide +kernel, by decide +kernel, by decide +kernel⟩
theorem ivX4_append : Cond.instanceMethod yX4_append ∈ xT := xT_at 349 (by decide +kernel) rfl
theorem slX4_append : Cond.selects yX4_append.cls yX4_append yX4_append ∈ xT := xT_at 350 (by decide +kernel) rfl
def rX10_make : Room := { frames := 6, cells := 0, slots := 0, locals := 165 }
theorem yX10_make_ok : xY yX10_make cX10_make 5 (some .int) 3 := ⟨xT_at 355 (by decide +kernel) rfl, xT_at 1 (by decide +kernel) rfl, by decide +kernel, by decide +kernel, by decide +kernel⟩
theorem ivX10_make : Cond.instanceMethod yX10_make ∈ xT := xT_at 353 (by decide +kernel) rfl
theorem slX10_make : Cond.selects yX10_make.cls yX10_make yX10_make ∈ xT := xT_at 354 (by decide +kernel) rfl
def rX5_take : Room := { frames := 2, cells := 0, slots := 0, locals := 45 }
theorem yX5_take_ok : xY yX5_take cX5_take 4 (none : Option Jvm.ClassFile.FieldType) 2 := ⟨xT_at 360 (by decide +kernel) rfl, xT_at 5 (by decide +kernel) rfl, by decide +kernel, by decide +kernel, by decide +kernel⟩
theorem ivX5_take : Cond.instanceMethod yX5_take ∈ xT := xT_at 358 (by decide +kernel) rfl
theorem slX5_take : Cond.selects yX5_take.cls yX5_take yX5_take ∈ xT := xT_at 359 (by decide +kernel) rfl
def rX4_size : Room := { frames := 0, cells := 0, slots := 0, locals := 0 }
theorem yX4_size_ok : xY yX4_size cX4_size 1 (some .int) 0 := ⟨xT_at 364 (by decide +kernel) rfl, xT_at 4 (by decide +kernel) rfl, by decide +kernel, by decide +kernel, by decide +kernel⟩
theorem ivX4_size : Cond.instanceMethod yX4_size ∈ xT := xT_at 362 (by decide +kernel) rfl
theorem slX4_size : Cond.selects yX4_size.cls yX4_size yX4_size ∈ xT := xT_at 363 (by decide +kernel) rfl
def rX4_member : Room := { frames := 0, cells := 0, slots := 0, locals := 0 }
theorem yX4_member_ok : xY yX4_member cX4_member 2 (some .int) 1 := ⟨xT_at 369 (by decide +kernel) rfl, xT_at 4 (by decide +kernel) rfl, by decide +kernel, by decide +kernel, by decide +kernel⟩
theorem ivX4_member : Cond.instanceMethod yX4_member ∈ xT := xT_at 367 (by decide +kernel) rfl
theorem slX4_member : Cond.selects yX4_member.cls yX4_member yX4_member ∈ xT := xT_at 368 (by decide +kernel) rfl
def rX4_clear : Room := { frames := 0, cells := 0, slots := 0, locals := 0 }
theorem yX4_clear_ok : xY yX4_clear cX4_clear 1 (none : Option Jvm.ClassFile.FieldType) 0 := ⟨xT_at 375 (by decide +kernel) rfl, xT_at 4 (by decide +kernel) rfl, by decide +kernel, by decide +kernel, by decide +kernel⟩
theorem ivX4_clear : Cond.instanceMethod yX4_clear ∈ xT := xT_at 373 (by decide +kernel) rfl
theorem slX4_clear : Cond.selects yX4_clear.cls yX4_clear yX4_clear ∈ xT := xT_at 374 (by decide +kernel) rfl
def rX5_build : Room := { frames := 5, cells := 0, slots := 0, locals := 139 }
theorem yX5_build_ok : xY yX5_build cX5_build 7 (some .int) 4 := ⟨xT_at 379 (by decide +kernel) rfl, xT_at 5 (by decide +kernel) rfl, by decide +kernel, by decide +kernel, by decide +kernel⟩
theorem ivX5_build : Cond.instanceMethod yX5_build ∈ xT := xT_at 377 (by decide +kernel) rfl
theorem slX5_build : Cond.selects yX5_build.cls yX5_build yX5_build ∈ xT := xT_at 378 (by decide +kernel) rfl
def rX5_buildShift : Room := { frames := 2, cells := 0, slots := 0, locals := 57 }
theorem yX5_buildShift_ok : xY yX5_buildShift cX5_buildShift 3 (some .int) 1 := ⟨xT_at 383 (by decide +kernel) rfl, xT_at 5 (by decide +kernel) rfl, by decide +kernel, by decide +kernel, by decide +kernel⟩
theorem ivX5_buildShift : Cond.instanceMethod yX5_buildShift ∈ xT := xT_at 382 (by decide +kernel) rfl
theorem slX5_buildShift : Cond.selects yX5_buildShift.cls yX5_buildShift yX5_buildShift ∈ xT := xT_priv (n := 7) 6 (by decide +kernel)
def rX5_areNear : Room := { frames := 1, cells := 0, slots := 0, locals := 23 }
theorem yX5_areNear_ok : xY yX5_areNear cX5_areNear 3 (some .boolean) 1 := ⟨xT_at 387 (by decide +kernel) rfl, xT_at 5 (by decide +kernel) rfl, by decide +kernel, by decide +kernel, by decide +kernel⟩
theorem ivX5_areNear : Cond.instanceMethod yX5_areNear ∈ xT := xT_at 386 (by decide +kernel) rfl
theorem slX5_areNear : Cond.selects yX5_areNear.cls yX5_areNear yX5_areNear ∈ xT := xT_priv (n := 7) 7 (by decide +kernel)
def rX5_areAll : Room := { frames := 0, cells := 0, slots := 0, locals := 0 }
theorem yX5_areAll_ok : xY yX5_areAll cX5_areAll 4 (some .boolean) 2 := ⟨xT_at 391 (by decide +kernel) rfl, xT_at 5 (by decide +kernel) rfl, by decide +kernel, by decide +kernel, by decide +kernel⟩
theorem ivX5_areAll : Cond.instanceMethod yX5_areAll ∈ xT := xT_at 390 (by decide +kernel) rfl
theorem slX5_areAll : Cond.selects yX5_areAll.cls yX5_areAll yX5_areAll ∈ xT := xT_priv (n := 7) 8 (by decide +kernel)
def rX5_putLikeness : Room := { frames := 1, cells := 0, slots := 0, locals := 27 }
theorem yX5_putLikeness_ok : xY yX5_putLikeness cX5_putLikeness 11 (none : Option Jvm.ClassFile.FieldType) 6 := ⟨xT_at 394 (by decide +kernel) rfl, xT_at 5 (by decide +kernel) rfl, by decide +kernel, by decide +kernel, by decide +kernel⟩
theorem ssX5_putLikeness : Cond.static yX5_putLikeness ∈ xT := xT_at 393 (by decide +kernel) rfl
def rX5_buildTurn : Room := { frames := 2, cells := 0, slots := 0, locals := 57 }
theorem yX5_buildTurn_ok : xY yX5_buildTurn cX5_buildTurn 17 (some .int) 3 := ⟨xT_at 399 (by decide +kernel) rfl, xT_at 5 (by decide +kernel) rfl, by decide +kernel, by decide +kernel, by decide +kernel⟩
theorem ivX5_buildTurn : Cond.instanceMethod yX5_buildTurn ∈ xT := xT_at 398 (by decide +kernel) rfl
theorem slX5_buildTurn : Cond.selects yX5_buildTurn.cls yX5_buildTurn yX5_buildTurn ∈ xT := xT_priv (n := 7) 9 (by decide +kernel)
def rX5_buildGlide : Room := { frames := 1, cells := 0, slots := 0, locals := 27 }
theorem yX5_buildGlide_ok : xY yX5_buildGlide cX5_buildGlide 16 (some .int) 3 := ⟨xT_at 404 (by decide +kernel) rfl, xT_at 5 (by decide +kernel) rfl, by decide +kernel, by decide +kernel, by decide +kernel⟩
theorem ivX5_buildGlide : Cond.instanceMethod yX5_buildGlide ∈ xT := xT_at 403 (by decide +kernel) rfl
theorem slX5_buildGlide : Cond.selects yX5_buildGlide.cls yX5_buildGlide yX5_buildGlide ∈ xT := xT_priv (n := 7) 10 (by decide +kernel)
def rX5_buildStretch : Room := { frames := 2, cells := 0, slots := 0, locals := 57 }
theorem yX5_buildStretch_ok : xY yX5_buildStretch cX5_buildStretch 7 (some .int) 3 := ⟨xT_at 409 (by decide +kernel) rfl, xT_at 5 (by decide +kernel) rfl, by decide +kernel, by decide +kernel, by decide +kernel⟩
theorem ivX5_buildStretch : Cond.instanceMethod yX5_buildStretch ∈ xT := xT_at 408 (by decide +kernel) rfl
theorem slX5_buildStretch : Cond.selects yX5_buildStretch.cls yX5_buildStretch yX5_buildStretch ∈ xT := xT_priv (n := 7) 11 (by decide +kernel)
def rX5_buildLikeness : Room := { frames := 2, cells := 0, slots := 0, locals := 57 }
theorem yX5_buildLikeness_ok : xY yX5_buildLikeness cX5_buildLikeness 26 (some .int) 1 := ⟨xT_at 413 (by decide +kernel) rfl, xT_at 5 (by decide +kernel) rfl, by decide +kernel, by decide +kernel, by decide +kernel⟩
theorem ivX5_buildLikeness : Cond.instanceMethod yX5_buildLikeness ∈ xT := xT_at 412 (by decide +kernel) rfl
theorem slX5_buildLikeness : Cond.selects yX5_buildLikeness.cls yX5_buildLikeness yX5_buildLikeness ∈ xT := xT_priv (n := 7) 12 (by decide +kernel)
def rX5_buildAffine : Room := { frames := 3, cells := 0, slots := 0, locals := 66 }
theorem yX5_buildAffine_ok : xY yX5_buildAffine cX5_buildAffine 5 (some .int) 1 := ⟨xT_at 417 (by decide +kernel) rfl, xT_at 5 (by decide +kernel) rfl, by decide +kernel, by decide +kernel, by decide +kernel⟩
theorem ivX5_buildAffine : Cond.instanceMethod yX5_buildAffine ∈ xT := xT_at 416 (by decide +kernel) rfl
theorem slX5_buildAffine : Cond.selects yX5_buildAffine.cls yX5_buildAffine yX5_buildAffine ∈ xT := xT_priv (n := 7) 13 (by decide +kernel)
def rX5_findSides : Room := { frames := 2, cells := 0, slots := 0, locals := 44 }
theorem yX5_findSides_ok : xY yX5_findSides cX5_findSides 3 (some .boolean) 2 := ⟨xT_at 421 (by decide +kernel) rfl, xT_at 5 (by decide +kernel) rfl, by decide +kernel, by decide +kernel, by decide +kernel⟩
theorem ivX5_findSides : Cond.instanceMethod yX5_findSides ∈ xT := xT_at 420 (by decide +kernel) rfl
theorem slX5_findSides : Cond.selects yX5_findSides.cls yX5_findSides yX5_findSides ∈ xT := xT_priv (n := 7) 14 (by decide +kernel)
def rX5_putWeighted : Room := { frames := 0, cells := 0, slots := 0, locals := 0 }
theorem yX5_putWeighted_ok : xY yX5_putWeighted cX5_putWeighted 8 (none : Option Jvm.ClassFile.FieldType) 2 := ⟨xT_at 427 (by decide +kernel) rfl, xT_at 5 (by decide +kernel) rfl, by decide +kernel, by decide +kernel, by decide +kernel⟩
theorem ivX5_putWeighted : Cond.instanceMethod yX5_putWeighted ∈ xT := xT_at 426 (by decide +kernel) rfl
theorem slX5_putWeighted : Cond.selects yX5_putWeighted.cls yX5_putWeighted yX5_putWeighted ∈ xT := xT_priv (n := 7) 15 (by decide +kernel)
def rX5_buildProjective : Room := { frames := 4, cells := 0, slots := 0, locals := 117 }
theorem yX5_buildProjective_ok : xY yX5_buildProjective cX5_buildProjective 3 (some .int) 1 := ⟨xT_at 431 (by decide +kernel) rfl, xT_at 5 (by decide +kernel) rfl, by decide +kernel, by decide +kernel, by decide +kernel⟩
theorem ivX5_buildProjective : Cond.instanceMethod yX5_buildProjective ∈ xT := xT_at 430 (by decide +kernel) rfl
theorem slX5_buildProjective : Cond.selects yX5_buildProjective.cls yX5_buildProjective yX5_buildProjective ∈ xT := xT_priv (n := 7) 16 (by decide +kernel)
def rX5_findWeights : Room := { frames := 3, cells := 0, slots := 0, locals := 81 }
theorem yX5_findWeights_ok : xY yX5_findWeights cX5_findWeights 17 (some .boolean) 0 := ⟨xT_at 435 (by decide +kernel) rfl, xT_at 5 (by decide +kernel) rfl, by decide +kernel, by decide +kernel, by decide +kernel⟩
theorem ivX5_findWeights : Cond.instanceMethod yX5_findWeights ∈ xT := xT_at 434 (by decide +kernel) rfl
theorem slX5_findWeights : Cond.selects yX5_findWeights.cls yX5_findWeights yX5_findWeights ∈ xT := xT_priv (n := 7) 17 (by decide +kernel)
def rX5_buildAny : Room := { frames := 1, cells := 0, slots := 0, locals := 27 }
theorem yX5_buildAny_ok : xY yX5_buildAny cX5_buildAny 3 (some .int) 1 := ⟨xT_at 441 (by decide +kernel) rfl, xT_at 5 (by decide +kernel) rfl, by decide +kernel, by decide +kernel, by decide +kernel⟩
theorem ivX5_buildAny : Cond.instanceMethod yX5_buildAny ∈ xT := xT_at 440 (by decide +kernel) rfl
theorem slX5_buildAny : Cond.selects yX5_buildAny.cls yX5_buildAny yX5_buildAny ∈ xT := xT_priv (n := 7) 18 (by decide +kernel)
def rX10_keepMap : Room := { frames := 4, cells := 0, slots := 0, locals := 92 }
theorem yX10_keepMap_ok : xY yX10_keepMap cX10_keepMap 2 (some .int) 1 := ⟨xT_at 446 (by decide +kernel) rfl, xT_at 1 (by decide +kernel) rfl, by decide +kernel, by decide +kernel, by decide +kernel⟩
theorem ivX10_keepMap : Cond.instanceMethod yX10_keepMap ∈ xT := xT_at 445 (by decide +kernel) rfl
theorem slX10_keepMap : Cond.selects yX10_keepMap.cls yX10_keepMap yX10_keepMap ∈ xT := xT_priv (n := 17) 19 (by decide +kernel)
def rX10_count : Room := { frames := 1, cells := 0, slots := 0, locals := 20 }
theorem yX10_count_ok : xY yX10_count cX10_count 2 (some .int) 1 := ⟨xT_at 450 (by decide +kernel) rfl, xT_at 1 (by decide +kernel) rfl, by decide +kernel, by decide +kernel, by decide +kernel⟩
theorem ivX10_count : Cond.instanceMethod yX10_count ∈ xT := xT_at 448 (by decide +kernel) rfl
theorem slX10_count : Cond.selects yX10_count.cls yX10_count yX10_count ∈ xT := xT_at 449 (by decide +kernel) rfl
def rX8_size : Room := { frames := 0, cells := 0, slots := 0, locals := 0 }
theorem yX8_size_ok : xY yX8_size cX8_size 1 (some .int) 0 := ⟨xT_at 454 (by decide +kernel) rfl, xT_at 2 (by decide +kernel) rfl, by decide +kernel, by decide +kernel, by decide +kernel⟩
theorem ivX8_size : Cond.instanceMethod yX8_size ∈ xT := xT_at 452 (by decide +kernel) rfl
theorem slX8_size : Cond.selects yX8_size.cls yX8_size yX8_size ∈ xT := xT_at 453 (by decide +kernel) rfl
def rX10_entry : Room := { frames := 1, cells := 0, slots := 0, locals := 22 }
theorem yX10_entry_ok : xY yX10_entry cX10_entry 3 (some .int) 2 := ⟨xT_at 459 (by decide +kernel) rfl, xT_at 1 (by decide +kernel) rfl, by decide +kernel, by decide +kernel, by decide +kernel⟩
theorem ivX10_entry : Cond.instanceMethod yX10_entry ∈ xT := xT_at 457 (by decide +kernel) rfl
theorem slX10_entry : Cond.selects yX10_entry.cls yX10_entry yX10_entry ∈ xT := xT_at 458 (by decide +kernel) rfl
def rX10_then : Room := { frames := 5, cells := 0, slots := 0, locals := 113 }
theorem yX10_then_ok : xY yX10_then cX10_then 3 (some .int) 2 := ⟨xT_at 463 (by decide +kernel) rfl, xT_at 1 (by decide +kernel) rfl, by decide +kernel, by decide +kernel, by decide +kernel⟩
theorem ivX10_then : Cond.instanceMethod yX10_then ∈ xT := xT_at 461 (by decide +kernel) rfl
theorem slX10_then : Cond.selects yX10_then.cls yX10_then yX10_then ∈ xT := xT_at 462 (by decide +kernel) rfl
def rX9_product : Room := { frames := 0, cells := 0, slots := 0, locals := 0 }
theorem yX9_product_ok : xY yX9_product cX9_product 5 (none : Option Jvm.ClassFile.FieldType) 3 := ⟨xT_at 466 (by decide +kernel) rfl, xT_at 9 (by decide +kernel) rfl, by decide +kernel, by decide +kernel, by decide +kernel⟩
theorem ssX9_product : Cond.static yX9_product ∈ xT := xT_at 465 (by decide +kernel) rfl
def rX10_back : Room := { frames := 5, cells := 0, slots := 0, locals := 113 }
theorem yX10_back_ok : xY yX10_back cX10_back 2 (some .int) 1 := ⟨xT_at 470 (by decide +kernel) rfl, xT_at 1 (by decide +kernel) rfl, by decide +kernel, by decide +kernel, by decide +kernel⟩
theorem ivX10_back : Cond.instanceMethod yX10_back ∈ xT := xT_at 468 (by decide +kernel) rfl
theorem slX10_back : Cond.selects yX10_back.cls yX10_back yX10_back ∈ xT := xT_at 469 (by decide +kernel) rfl
def rX9_adjugate : Room := { frames := 1, cells := 0, slots := 0, locals := 27 }
theorem yX9_adjugate_ok : xY yX9_adjugate cX9_adjugate 2 (none : Option Jvm.ClassFile.FieldType) 2 := ⟨xT_at 473 (by decide +kernel) rfl, xT_at 9 (by decide +kernel) rfl, by decide +kernel, by decide +kernel, by decide +kernel⟩
theorem ssX9_adjugate : Cond.static yX9_adjugate ∈ xT := xT_at 472 (by decide +kernel) rfl
def rX10_image : Room := { frames := 5, cells := 0, slots := 0, locals := 114 }
theorem yX10_image_ok : xY yX10_image cX10_image 4 (some .int) 2 := ⟨xT_at 478 (by decide +kernel) rfl, xT_at 1 (by decide +kernel) rfl, by decide +kernel, by decide +kernel, by decide +kernel⟩
theorem ivX10_image : Cond.instanceMethod yX10_image ∈ xT := xT_at 476 (by decide +kernel) rfl
theorem slX10_image : Cond.selects yX10_image.cls yX10_image yX10_image ∈ xT := xT_at 477 (by decide +kernel) rfl
def rX1_ofConic : Room := { frames := 2, cells := 0, slots := 0, locals := 49 }
theorem yX1_ofConic_ok : xY yX1_ofConic cX1_ofConic 3 (none : Option Jvm.ClassFile.FieldType) 2 := ⟨xT_at 482 (by decide +kernel) rfl, xT_at 6 (by decide +kernel) rfl, by decide +kernel, by decide +kernel, by decide +kernel⟩
theorem ivX1_ofConic : Cond.instanceMethod yX1_ofConic ∈ xT := xT_at 480 (by decide +kernel) rfl
theorem slX1_ofConic : Cond.selects yX1_ofConic.cls yX1_ofConic yX1_ofConic ∈ xT := xT_at 481 (by decide +kernel) rfl
def rX9_transpose : Room := { frames := 1, cells := 0, slots := 0, locals := 27 }
theorem yX9_transpose_ok : xY yX9_transpose cX9_transpose 3 (none : Option Jvm.ClassFile.FieldType) 2 := ⟨xT_at 486 (by decide +kernel) rfl, xT_at 9 (by decide +kernel) rfl, by decide +kernel, by decide +kernel, by decide +kernel⟩
theorem ssX9_transpose : Cond.static yX9_transpose ∈ xT := xT_at 485 (by decide +kernel) rfl
def rX9_apply : Room := { frames := 0, cells := 0, slots := 0, locals := 0 }
theorem yX9_apply_ok : xY yX9_apply cX9_apply 4 (none : Option Jvm.ClassFile.FieldType) 3 := ⟨xT_at 492 (by decide +kernel) rfl, xT_at 9 (by decide +kernel) rfl, by decide +kernel, by decide +kernel, by decide +kernel⟩
theorem ssX9_apply : Cond.static yX9_apply ∈ xT := xT_at 491 (by decide +kernel) rfl
def rX1_ofLine : Room := { frames := 2, cells := 0, slots := 0, locals := 49 }
theorem yX1_ofLine_ok : xY yX1_ofLine cX1_ofLine 4 (none : Option Jvm.ClassFile.FieldType) 3 := ⟨xT_at 496 (by decide +kernel) rfl, xT_at 6 (by decide +kernel) rfl, by decide +kernel, by decide +kernel, by decide +kernel⟩
theorem ivX1_ofLine : Cond.instanceMethod yX1_ofLine ∈ xT := xT_at 494 (by decide +kernel) rfl
theorem slX1_ofLine : Cond.selects yX1_ofLine.cls yX1_ofLine yX1_ofLine ∈ xT := xT_at 495 (by decide +kernel) rfl
def rX10_kind : Room := { frames := 4, cells := 0, slots := 0, locals := 103 }
theorem yX10_kind_ok : xY yX10_kind cX10_kind 2 (some .int) 1 := ⟨xT_at 501 (by decide +kernel) rfl, xT_at 1 (by decide +kernel) rfl, by decide +kernel, by decide +kernel, by decide +kernel⟩
theorem ivX10_kind : Cond.instanceMethod yX10_kind ∈ xT := xT_at 499 (by decide +kernel) rfl
theorem slX10_kind : Cond.selects yX10_kind.cls yX10_kind yX10_kind ∈ xT := xT_at 500 (by decide +kernel) rfl
def rX2_keepsFar : Room := { frames := 0, cells := 0, slots := 0, locals := 0 }
theorem yX2_keepsFar_ok : xY yX2_keepsFar cX2_keepsFar 1 (some .boolean) 1 := ⟨xT_at 504 (by decide +kernel) rfl, xT_at 13 (by decide +kernel) rfl, by decide +kernel, by decide +kernel, by decide +kernel⟩
theorem ssX2_keepsFar : Cond.static yX2_keepsFar ∈ xT := xT_at 503 (by decide +kernel) rfl
def rX2_ofAffine : Room := { frames := 2, cells := 0, slots := 0, locals := 44 }
theorem yX2_ofAffine_ok : xY yX2_ofAffine cX2_ofAffine 5 (some .int) 1 := ⟨xT_at 507 (by decide +kernel) rfl, xT_at 13 (by decide +kernel) rfl, by decide +kernel, by decide +kernel, by decide +kernel⟩
theorem ssX2_ofAffine : Cond.static yX2_ofAffine ∈ xT := xT_at 506 (by decide +kernel) rfl
def rX2_ofLikeness : Room := { frames := 1, cells := 0, slots := 0, locals := 21 }
theorem yX2_ofLikeness_ok : xY yX2_ofLikeness cX2_ofLikeness 1 (some .int) 1 := ⟨xT_at 510 (by decide +kernel) rfl, xT_at 13 (by decide +kernel) rfl, by decide +kernel, by decide +kernel, by decide +kernel⟩
theorem ssX2_ofLikeness : Cond.static yX2_ofLikeness ∈ xT := xT_at 509 (by decide +kernel) rfl
def rX2_allStays : Room := { frames := 0, cells := 0, slots := 0, locals := 0 }
theorem yX2_allStays_ok : xY yX2_allStays cX2_allStays 2 (some .boolean) 1 := ⟨xT_at 513 (by decide +kernel) rfl, xT_at 13 (by decide +kernel) rfl, by decide +kernel, by decide +kernel, by decide +kernel⟩
theorem ssX2_allStays : Cond.static yX2_allStays ∈ xT := xT_at 512 (by decide +kernel) rfl
def rX2_keepsSizes : Room := { frames := 0, cells := 0, slots := 0, locals := 0 }
theorem yX2_keepsSizes_ok : xY yX2_keepsSizes cX2_keepsSizes 1 (some .boolean) 1 := ⟨xT_at 516 (by decide +kernel) rfl, xT_at 13 (by decide +kernel) rfl, by decide +kernel, by decide +kernel, by decide +kernel⟩
theorem ssX2_keepsSizes : Cond.static yX2_keepsSizes ∈ xT := xT_at 515 (by decide +kernel) rfl
def rX2_ofTurnedOver : Room := { frames := 1, cells := 0, slots := 0, locals := 24 }
theorem yX2_ofTurnedOver_ok : xY yX2_ofTurnedOver cX2_ofTurnedOver 1 (some .int) 1 := ⟨xT_at 519 (by decide +kernel) rfl, xT_at 13 (by decide +kernel) rfl, by decide +kernel, by decide +kernel, by decide +kernel⟩
theorem ssX2_ofTurnedOver : Cond.static yX2_ofTurnedOver ∈ xT := xT_at 518 (by decide +kernel) rfl
def rX2_keepsLineOfPoints : Room := { frames := 0, cells := 0, slots := 0, locals := 0 }
theorem yX2_keepsLineOfPoints_ok : xY yX2_keepsLineOfPoints cX2_keepsLineOfPoints 5 (some .boolean) 1 := ⟨xT_at 522 (by decide +kernel) rfl, xT_at 13 (by decide +kernel) rfl, by decide +kernel, by decide +kernel, by decide +kernel⟩
theorem ssX2_keepsLineOfPoints : Cond.static yX2_keepsLineOfPoints ∈ xT := xT_at 521 (by decide +kernel) rfl
def rX2_ofProjective : Room := { frames := 3, cells := 0, slots := 0, locals := 79 }
theorem yX2_ofProjective_ok : xY yX2_ofProjective cX2_ofProjective 5 (some .int) 2 := ⟨xT_at 526 (by decide +kernel) rfl, xT_at 13 (by decide +kernel) rfl, by decide +kernel, by decide +kernel, by decide +kernel⟩
theorem ssX2_ofProjective : Cond.static yX2_ofProjective ∈ xT := xT_at 525 (by decide +kernel) rfl
def rX6_find : Room := { frames := 2, cells := 0, slots := 0, locals := 48 }
theorem yX6_find_ok : xY yX6_find cX6_find 12 (none : Option Jvm.ClassFile.FieldType) 1 := ⟨xT_at 530 (by decide +kernel) rfl, xT_at 7 (by decide +kernel) rfl, by decide +kernel, by decide +kernel, by decide +kernel⟩
theorem ivX6_find : Cond.instanceMethod yX6_find ∈ xT := xT_at 528 (by decide +kernel) rfl
theorem slX6_find : Cond.selects yX6_find.cls yX6_find yX6_find ∈ xT := xT_at 529 (by decide +kernel) rfl
def rX9_trace : Room := { frames := 0, cells := 0, slots := 0, locals := 0 }
theorem yX9_trace_ok : xY yX9_trace cX9_trace 1 (some .long) 1 := ⟨xT_at 534 (by decide +kernel) rfl, xT_at 9 (by decide +kernel) rfl, by decide +kernel, by decide +kernel, by decide +kernel⟩
theorem ssX9_trace : Cond.static yX9_trace ∈ xT := xT_at 533 (by decide +kernel) rfl
def rX6_widestRow : Room := { frames := 1, cells := 0, slots := 0, locals := 23 }
theorem yX6_widestRow_ok : xY yX6_widestRow cX6_widestRow 6 (some .long) 1 := ⟨xT_at 538 (by decide +kernel) rfl, xT_at 7 (by decide +kernel) rfl, by decide +kernel, by decide +kernel, by decide +kernel⟩
theorem ssX6_widestRow : Cond.static yX6_widestRow ∈ xT := xT_at 537 (by decide +kernel) rfl
def rX6_has : Room := { frames := 0, cells := 0, slots := 0, locals := 0 }
theorem yX6_has_ok : xY yX6_has cX6_has 2 (some .boolean) 1 := ⟨xT_at 550 (by decide +kernel) rfl, xT_at 7 (by decide +kernel) rfl, by decide +kernel, by decide +kernel, by decide +kernel⟩
theorem ivX6_has : Cond.instanceMethod yX6_has ∈ xT := xT_at 548 (by decide +kernel) rfl
theorem slX6_has : Cond.selects yX6_has.cls yX6_has yX6_has ∈ xT := xT_at 549 (by decide +kernel) rfl
def rX6_value : Room := { frames := 1, cells := 0, slots := 0, locals := 21 }
theorem yX6_value_ok : xY yX6_value cX6_value 2 (some .long) 1 := ⟨xT_at 554 (by decide +kernel) rfl, xT_at 7 (by decide +kernel) rfl, by decide +kernel, by decide +kernel, by decide +kernel⟩
theorem ivX6_value : Cond.instanceMethod yX6_value ∈ xT := xT_at 552 (by decide +kernel) rfl
theorem slX6_value : Cond.selects yX6_value.cls yX6_value yX6_value ∈ xT := xT_at 553 (by decide +kernel) rfl
def rX6_fixedBy : Room := { frames := 2, cells := 0, slots := 0, locals := 49 }
theorem yX6_fixedBy_ok : xY yX6_fixedBy cX6_fixedBy 4 (some .int) 2 := ⟨xT_at 559 (by decide +kernel) rfl, xT_at 7 (by decide +kernel) rfl, by decide +kernel, by decide +kernel, by decide +kernel⟩
theorem ivX6_fixedBy : Cond.instanceMethod yX6_fixedBy ∈ xT := xT_at 557 (by decide +kernel) rfl
theorem slX6_fixedBy : Cond.selects yX6_fixedBy.cls yX6_fixedBy yX6_fixedBy ∈ xT := xT_at 558 (by decide +kernel) rfl
def rX6_takeRow : Room := { frames := 1, cells := 0, slots := 0, locals := 23 }
theorem yX6_takeRow_ok : xY yX6_takeRow cX6_takeRow 3 (some .boolean) 1 := ⟨xT_at 567 (by decide +kernel) rfl, xT_at 7 (by decide +kernel) rfl, by decide +kernel, by decide +kernel, by decide +kernel⟩
theorem ivX6_takeRow : Cond.instanceMethod yX6_takeRow ∈ xT := xT_at 566 (by decide +kernel) rfl
theorem slX6_takeRow : Cond.selects yX6_takeRow.cls yX6_takeRow yX6_takeRow ∈ xT := xT_priv (n := 6) 20 (by decide +kernel)
def rX10_own : Room := { frames := 3, cells := 0, slots := 0, locals := 79 }
theorem yX10_own_ok : xY yX10_own cX10_own 3 (some .long) 2 := ⟨xT_at 573 (by decide +kernel) rfl, xT_at 1 (by decide +kernel) rfl, by decide +kernel, by decide +kernel, by decide +kernel⟩
theorem ivX10_own : Cond.instanceMethod yX10_own ∈ xT := xT_at 571 (by decide +kernel) rfl
theorem slX10_own : Cond.selects yX10_own.cls yX10_own yX10_own ∈ xT := xT_at 572 (by decide +kernel) rfl
def rX10_fixed : Room := { frames := 5, cells := 0, slots := 0, locals := 114 }
theorem yX10_fixed_ok : xY yX10_fixed cX10_fixed 4 (some .int) 2 := ⟨xT_at 580 (by decide +kernel) rfl, xT_at 1 (by decide +kernel) rfl, by decide +kernel, by decide +kernel, by decide +kernel⟩
theorem ivX10_fixed : Cond.instanceMethod yX10_fixed ∈ xT := xT_at 578 (by decide +kernel) rfl
theorem slX10_fixed : Cond.selects yX10_fixed.cls yX10_fixed yX10_fixed ∈ xT := xT_at 579 (by decide +kernel) rfl
def rX10_order : Room := { frames := 3, cells := 0, slots := 0, locals := 81 }
theorem yX10_order_ok : xY yX10_order cX10_order 4 (some .int) 2 := ⟨xT_at 585 (by decide +kernel) rfl, xT_at 1 (by decide +kernel) rfl, by decide +kernel, by decide +kernel, by decide +kernel⟩
theorem ivX10_order : Cond.instanceMethod yX10_order ∈ xT := xT_at 583 (by decide +kernel) rfl
theorem slX10_order : Cond.selects yX10_order.cls yX10_order yX10_order ∈ xT := xT_at 584 (by decide +kernel) rfl
def rX10_seed : Room := { frames := 1, cells := 0, slots := 0, locals := 21 }
theorem yX10_seed_ok : xY yX10_seed cX10_seed 2 (some .int) 1 := ⟨xT_at 591 (by decide +kernel) rfl, xT_at 1 (by decide +kernel) rfl, by decide +kernel, by decide +kernel, by decide +kernel⟩
theorem ivX10_seed : Cond.instanceMethod yX10_seed ∈ xT := xT_at 589 (by decide +kernel) rfl
theorem slX10_seed : Cond.selects yX10_seed.cls yX10_seed yX10_seed ∈ xT := xT_at 590 (by decide +kernel) rfl
def rX10_group : Room := { frames := 6, cells := 0, slots := 0, locals := 137 }
theorem yX10_group_ok : xY yX10_group cX10_group 3 (some .int) 1 := ⟨xT_at 595 (by decide +kernel) rfl, xT_at 1 (by decide +kernel) rfl, by decide +kernel, by decide +kernel, by decide +kernel⟩
theorem ivX10_group : Cond.instanceMethod yX10_group ∈ xT := xT_at 593 (by decide +kernel) rfl
theorem slX10_group : Cond.selects yX10_group.cls yX10_group yX10_group ∈ xT := xT_at 594 (by decide +kernel) rfl
def rX0_grow : Room := { frames := 5, cells := 0, slots := 0, locals := 112 }
theorem yX0_grow_ok : xY yX0_grow cX0_grow 6 (some .int) 3 := ⟨xT_at 599 (by decide +kernel) rfl, xT_at 8 (by decide +kernel) rfl, by decide +kernel, by decide +kernel, by decide +kernel⟩
theorem ivX0_grow : Cond.instanceMethod yX0_grow ∈ xT := xT_at 597 (by decide +kernel) rfl
theorem slX0_grow : Cond.selects yX0_grow.cls yX0_grow yX0_grow ∈ xT := xT_at 598 (by decide +kernel) rfl
def rX10_element : Room := { frames := 1, cells := 0, slots := 0, locals := 22 }
theorem yX10_element_ok : xY yX10_element cX10_element 4 (some .int) 2 := ⟨xT_at 611 (by decide +kernel) rfl, xT_at 1 (by decide +kernel) rfl, by decide +kernel, by decide +kernel, by decide +kernel⟩
theorem ivX10_element : Cond.instanceMethod yX10_element ∈ xT := xT_at 609 (by decide +kernel) rfl
theorem slX10_element : Cond.selects yX10_element.cls yX10_element yX10_element ∈ xT := xT_at 610 (by decide +kernel) rfl
def rX10_among : Room := { frames := 3, cells := 0, slots := 0, locals := 68 }
theorem yX10_among_ok : xY yX10_among cX10_among 3 (some .int) 1 := ⟨xT_at 615 (by decide +kernel) rfl, xT_at 1 (by decide +kernel) rfl, by decide +kernel, by decide +kernel, by decide +kernel⟩
theorem ivX10_among : Cond.instanceMethod yX10_among ∈ xT := xT_at 613 (by decide +kernel) rfl
theorem slX10_among : Cond.selects yX10_among.cls yX10_among yX10_among ∈ xT := xT_at 614 (by decide +kernel) rfl
def rX11_point : Room := { frames := 4, cells := 0, slots := 0, locals := 106 }
theorem yX11_point_ok : xY yX11_point cX11_point 4 (some .int) 3 := ⟨xT_at 681 (by decide +kernel) rfl, xT_at 10 (by decide +kernel) rfl, by decide +kernel, by decide +kernel, by decide +kernel⟩
theorem ivX11_point : Cond.instanceMethod yX11_point ∈ xT := xT_at 679 (by decide +kernel) rfl
theorem slX11_point : Cond.selects yX11_point.cls yX11_point yX11_point ∈ xT := xT_at 680 (by decide +kernel) rfl
def rX11_three : Room := { frames := 3, cells := 0, slots := 0, locals := 82 }
theorem yX11_three_ok : xY yX11_three cX11_three 5 (some .int) 4 := ⟨xT_at 685 (by decide +kernel) rfl, xT_at 10 (by decide +kernel) rfl, by decide +kernel, by decide +kernel, by decide +kernel⟩
theorem ivX11_three : Cond.instanceMethod yX11_three ∈ xT := xT_at 684 (by decide +kernel) rfl
theorem slX11_three : Cond.selects yX11_three.cls yX11_three yX11_three ∈ xT := xT_priv (n := 18) 21 (by decide +kernel)
def rX11_in : Room := { frames := 0, cells := 0, slots := 0, locals := 0 }
theorem yX11_in_ok : xY yX11_in cX11_in 6 (some .boolean) 3 := ⟨xT_at 690 (by decide +kernel) rfl, xT_at 10 (by decide +kernel) rfl, by decide +kernel, by decide +kernel, by decide +kernel⟩
theorem ssX11_in : Cond.static yX11_in ∈ xT := xT_at 689 (by decide +kernel) rfl
def rX11_object : Room := { frames := 2, cells := 0, slots := 0, locals := 57 }
theorem yX11_object_ok : xY yX11_object cX11_object 6 (some .int) 1 := ⟨xT_at 694 (by decide +kernel) rfl, xT_at 10 (by decide +kernel) rfl, by decide +kernel, by decide +kernel, by decide +kernel⟩
theorem ivX11_object : Cond.instanceMethod yX11_object ∈ xT := xT_at 693 (by decide +kernel) rfl
theorem slX11_object : Cond.selects yX11_object.cls yX11_object yX11_object ∈ xT := xT_priv (n := 18) 22 (by decide +kernel)
def rX11_least : Room := { frames := 1, cells := 0, slots := 0, locals := 29 }
theorem yX11_least_ok : xY yX11_least cX11_least 9 (some .boolean) 2 := ⟨xT_at 698 (by decide +kernel) rfl, xT_at 10 (by decide +kernel) rfl, by decide +kernel, by decide +kernel, by decide +kernel⟩
theorem ivX11_least : Cond.instanceMethod yX11_least ∈ xT := xT_at 697 (by decide +kernel) rfl
theorem slX11_least : Cond.selects yX11_least.cls yX11_least yX11_least ∈ xT := xT_priv (n := 18) 23 (by decide +kernel)
def rX11_gcd : Room := { frames := 0, cells := 0, slots := 0, locals := 0 }
theorem yX11_gcd_ok : xY yX11_gcd cX11_gcd 10 (some .long) 2 := ⟨xT_at 701 (by decide +kernel) rfl, xT_at 10 (by decide +kernel) rfl, by decide +kernel, by decide +kernel, by decide +kernel⟩
theorem ssX11_gcd : Cond.static yX11_gcd ∈ xT := xT_at 700 (by decide +kernel) rfl
def rX11_line : Room := { frames := 4, cells := 0, slots := 0, locals := 106 }
theorem yX11_line_ok : xY yX11_line cX11_line 4 (some .int) 3 := ⟨xT_at 706 (by decide +kernel) rfl, xT_at 10 (by decide +kernel) rfl, by decide +kernel, by decide +kernel, by decide +kernel⟩
theorem ivX11_line : Cond.instanceMethod yX11_line ∈ xT := xT_at 704 (by decide +kernel) rfl
theorem slX11_line : Cond.selects yX11_line.cls yX11_line yX11_line ∈ xT := xT_at 705 (by decide +kernel) rfl
def rX11_conic : Room := { frames := 3, cells := 0, slots := 0, locals := 82 }
theorem yX11_conic_ok : xY yX11_conic cX11_conic 7 (some .int) 6 := ⟨xT_at 710 (by decide +kernel) rfl, xT_at 10 (by decide +kernel) rfl, by decide +kernel, by decide +kernel, by decide +kernel⟩
theorem ivX11_conic : Cond.instanceMethod yX11_conic ∈ xT := xT_at 708 (by decide +kernel) rfl
theorem slX11_conic : Cond.selects yX11_conic.cls yX11_conic yX11_conic ∈ xT := xT_at 709 (by decide +kernel) rfl
def rX11_number : Room := { frames := 1, cells := 0, slots := 0, locals := 25 }
theorem yX11_number_ok : xY yX11_number cX11_number 3 (some .int) 2 := ⟨xT_at 714 (by decide +kernel) rfl, xT_at 10 (by decide +kernel) rfl, by decide +kernel, by decide +kernel, by decide +kernel⟩
theorem ivX11_number : Cond.instanceMethod yX11_number ∈ xT := xT_at 712 (by decide +kernel) rfl
theorem slX11_number : Cond.selects yX11_number.cls yX11_number yX11_number ∈ xT := xT_at 713 (by decide +kernel) rfl
def rX11_join : Room := { frames := 3, cells := 0, slots := 0, locals := 82 }
theorem yX11_join_ok : xY yX11_join cX11_join 3 (some .int) 2 := ⟨xT_at 720 (by decide +kernel) rfl, xT_at 10 (by decide +kernel) rfl, by decide +kernel, by decide +kernel, by decide +kernel⟩
theorem ivX11_join : Cond.instanceMethod yX11_join ∈ xT := xT_at 718 (by decide +kernel) rfl
theorem slX11_join : Cond.selects yX11_join.cls yX11_join yX11_join ∈ xT := xT_at 719 (by decide +kernel) rfl
def rX11_isSort : Room := { frames := 0, cells := 0, slots := 0, locals := 0 }
theorem yX11_isSort_ok : xY yX11_isSort cX11_isSort 3 (some .boolean) 2 := ⟨xT_at 724 (by decide +kernel) rfl, xT_at 10 (by decide +kernel) rfl, by decide +kernel, by decide +kernel, by decide +kernel⟩
theorem ivX11_isSort : Cond.instanceMethod yX11_isSort ∈ xT := xT_at 723 (by decide +kernel) rfl
theorem slX11_isSort : Cond.selects yX11_isSort.cls yX11_isSort yX11_isSort ∈ xT := xT_priv (n := 18) 24 (by decide +kernel)
def rX11_crossOf : Room := { frames := 1, cells := 0, slots := 0, locals := 22 }
theorem yX11_crossOf_ok : xY yX11_crossOf cX11_crossOf 6 (none : Option Jvm.ClassFile.FieldType) 2 := ⟨xT_at 728 (by decide +kernel) rfl, xT_at 10 (by decide +kernel) rfl, by decide +kernel, by decide +kernel, by decide +kernel⟩
theorem ivX11_crossOf : Cond.instanceMethod yX11_crossOf ∈ xT := xT_at 727 (by decide +kernel) rfl
theorem slX11_crossOf : Cond.selects yX11_crossOf.cls yX11_crossOf yX11_crossOf ∈ xT := xT_priv (n := 18) 25 (by decide +kernel)
def rX11_at : Room := { frames := 0, cells := 0, slots := 0, locals := 0 }
theorem yX11_at_ok : xY yX11_at cX11_at 3 (some .long) 2 := ⟨xT_at 732 (by decide +kernel) rfl, xT_at 10 (by decide +kernel) rfl, by decide +kernel, by decide +kernel, by decide +kernel⟩
theorem ivX11_at : Cond.instanceMethod yX11_at ∈ xT := xT_at 731 (by decide +kernel) rfl
theorem slX11_at : Cond.selects yX11_at.cls yX11_at yX11_at ∈ xT := xT_priv (n := 18) 26 (by decide +kernel)
def rX11_on : Room := { frames := 2, cells := 0, slots := 0, locals := 44 }
theorem yX11_on_ok : xY yX11_on cX11_on 11 (some .int) 2 := ⟨xT_at 736 (by decide +kernel) rfl, xT_at 10 (by decide +kernel) rfl, by decide +kernel, by decide +kernel, by decide +kernel⟩
theorem ivX11_on : Cond.instanceMethod yX11_on ∈ xT := xT_at 734 (by decide +kernel) rfl
theorem slX11_on : Cond.selects yX11_on.cls yX11_on yX11_on ∈ xT := xT_at 735 (by decide +kernel) rfl
def rX11_dot : Room := { frames := 1, cells := 0, slots := 0, locals := 22 }
theorem yX11_dot_ok : xY yX11_dot cX11_dot 3 (some .long) 2 := ⟨xT_at 740 (by decide +kernel) rfl, xT_at 10 (by decide +kernel) rfl, by decide +kernel, by decide +kernel, by decide +kernel⟩
theorem ivX11_dot : Cond.instanceMethod yX11_dot ∈ xT := xT_at 739 (by decide +kernel) rfl
theorem slX11_dot : Cond.selects yX11_dot.cls yX11_dot yX11_dot ∈ xT := xT_priv (n := 18) 27 (by decide +kernel)
def rX11_shape : Room := { frames := 1, cells := 0, slots := 0, locals := 22 }
theorem yX11_shape_ok : xY yX11_shape cX11_shape 18 (some .int) 1 := ⟨xT_at 744 (by decide +kernel) rfl, xT_at 10 (by decide +kernel) rfl, by decide +kernel, by decide +kernel, by decide +kernel⟩
theorem ivX11_shape : Cond.instanceMethod yX11_shape ∈ xT := xT_at 742 (by decide +kernel) rfl
theorem slX11_shape : Cond.selects yX11_shape.cls yX11_shape yX11_shape ∈ xT := xT_at 743 (by decide +kernel) rfl
def rX11_cross : Room := { frames := 3, cells := 0, slots := 0, locals := 73 }
theorem yX11_cross_ok : xY yX11_cross cX11_cross 14 (some .long) 5 := ⟨xT_at 749 (by decide +kernel) rfl, xT_at 10 (by decide +kernel) rfl, by decide +kernel, by decide +kernel, by decide +kernel⟩
theorem ivX11_cross : Cond.instanceMethod yX11_cross ∈ xT := xT_at 747 (by decide +kernel) rfl
theorem slX11_cross : Cond.selects yX11_cross.cls yX11_cross yX11_cross ∈ xT := xT_at 748 (by decide +kernel) rfl
def rX11_areInLine : Room := { frames := 2, cells := 0, slots := 0, locals := 47 }
theorem yX11_areInLine_ok : xY yX11_areInLine cX11_areInLine 7 (some .boolean) 3 := ⟨xT_at 753 (by decide +kernel) rfl, xT_at 10 (by decide +kernel) rfl, by decide +kernel, by decide +kernel, by decide +kernel⟩
theorem ivX11_areInLine : Cond.instanceMethod yX11_areInLine ∈ xT := xT_at 752 (by decide +kernel) rfl
theorem slX11_areInLine : Cond.selects yX11_areInLine.cls yX11_areInLine yX11_areInLine ∈ xT := xT_priv (n := 18) 28 (by decide +kernel)
def rX11_part : Room := { frames := 1, cells := 0, slots := 0, locals := 22 }
theorem yX11_part_ok : xY yX11_part cX11_part 6 (some .long) 3 := ⟨xT_at 757 (by decide +kernel) rfl, xT_at 10 (by decide +kernel) rfl, by decide +kernel, by decide +kernel, by decide +kernel⟩
theorem ivX11_part : Cond.instanceMethod yX11_part ∈ xT := xT_at 756 (by decide +kernel) rfl
theorem slX11_part : Cond.selects yX11_part.cls yX11_part yX11_part ∈ xT := xT_priv (n := 18) 29 (by decide +kernel)
def rX11_give : Room := { frames := 0, cells := 0, slots := 0, locals := 0 }
theorem yX11_give_ok : xY yX11_give cX11_give 2 (some .int) 1 := ⟨xT_at 762 (by decide +kernel) rfl, xT_at 10 (by decide +kernel) rfl, by decide +kernel, by decide +kernel, by decide +kernel⟩
theorem ivX11_give : Cond.instanceMethod yX11_give ∈ xT := xT_at 760 (by decide +kernel) rfl
theorem slX11_give : Cond.selects yX11_give.cls yX11_give yX11_give ∈ xT := xT_at 761 (by decide +kernel) rfl
def rX11_make : Room := { frames := 6, cells := 0, slots := 0, locals := 145 }
theorem yX11_make_ok : xY yX11_make cX11_make 6 (some .int) 3 := ⟨xT_at 766 (by decide +kernel) rfl, xT_at 10 (by decide +kernel) rfl, by decide +kernel, by decide +kernel, by decide +kernel⟩
theorem ivX11_make : Cond.instanceMethod yX11_make ∈ xT := xT_at 764 (by decide +kernel) rfl
theorem slX11_make : Cond.selects yX11_make.cls yX11_make yX11_make ∈ xT := xT_at 765 (by decide +kernel) rfl
def rX11_mirror : Room := { frames := 2, cells := 0, slots := 0, locals := 43 }
theorem yX11_mirror_ok : xY yX11_mirror cX11_mirror 7 (some .boolean) 0 := ⟨xT_at 773 (by decide +kernel) rfl, xT_at 10 (by decide +kernel) rfl, by decide +kernel, by decide +kernel, by decide +kernel⟩
theorem ivX11_mirror : Cond.instanceMethod yX11_mirror ∈ xT := xT_at 772 (by decide +kernel) rfl
theorem slX11_mirror : Cond.selects yX11_mirror.cls yX11_mirror yX11_mirror ∈ xT := xT_priv (n := 18) 30 (by decide +kernel)
def rX11_areGiven : Room := { frames := 0, cells := 0, slots := 0, locals := 0 }
theorem yX11_areGiven_ok : xY yX11_areGiven cX11_areGiven 5 (some .boolean) 2 := ⟨xT_at 777 (by decide +kernel) rfl, xT_at 10 (by decide +kernel) rfl, by decide +kernel, by decide +kernel, by decide +kernel⟩
theorem ivX11_areGiven : Cond.instanceMethod yX11_areGiven ∈ xT := xT_at 776 (by decide +kernel) rfl
theorem slX11_areGiven : Cond.selects yX11_areGiven.cls yX11_areGiven yX11_areGiven ∈ xT := xT_priv (n := 18) 31 (by decide +kernel)
def rX11_isFar : Room := { frames := 1, cells := 0, slots := 0, locals := 22 }
theorem yX11_isFar_ok : xY yX11_isFar cX11_isFar 2 (some .boolean) 1 := ⟨xT_at 781 (by decide +kernel) rfl, xT_at 10 (by decide +kernel) rfl, by decide +kernel, by decide +kernel, by decide +kernel⟩
theorem ivX11_isFar : Cond.instanceMethod yX11_isFar ∈ xT := xT_at 780 (by decide +kernel) rfl
theorem slX11_isFar : Cond.selects yX11_isFar.cls yX11_isFar yX11_isFar ∈ xT := xT_priv (n := 18) 32 (by decide +kernel)
def rX11_set : Room := { frames := 0, cells := 0, slots := 0, locals := 0 }
theorem yX11_set_ok : xY yX11_set cX11_set 13 (none : Option Jvm.ClassFile.FieldType) 6 := ⟨xT_at 786 (by decide +kernel) rfl, xT_at 10 (by decide +kernel) rfl, by decide +kernel, by decide +kernel, by decide +kernel⟩
theorem ivX11_set : Cond.instanceMethod yX11_set ∈ xT := xT_at 785 (by decide +kernel) rfl
theorem slX11_set : Cond.selects yX11_set.cls yX11_set yX11_set ∈ xT := xT_priv (n := 18) 33 (by decide +kernel)
def rX11_glide : Room := { frames := 3, cells := 0, slots := 0, locals := 69 }
theorem yX11_glide_ok : xY yX11_glide cX11_glide 10 (some .boolean) 2 := ⟨xT_at 790 (by decide +kernel) rfl, xT_at 10 (by decide +kernel) rfl, by decide +kernel, by decide +kernel, by decide +kernel⟩
theorem ivX11_glide : Cond.instanceMethod yX11_glide ∈ xT := xT_at 789 (by decide +kernel) rfl
theorem slX11_glide : Cond.selects yX11_glide.cls yX11_glide yX11_glide ∈ xT := xT_priv (n := 18) 34 (by decide +kernel)
def rX11_times : Room := { frames := 0, cells := 0, slots := 0, locals := 0 }
theorem yX11_times_ok : xY yX11_times cX11_times 5 (none : Option Jvm.ClassFile.FieldType) 3 := ⟨xT_at 793 (by decide +kernel) rfl, xT_at 10 (by decide +kernel) rfl, by decide +kernel, by decide +kernel, by decide +kernel⟩
theorem ssX11_times : Cond.static yX11_times ∈ xT := xT_at 792 (by decide +kernel) rfl
def rX11_any : Room := { frames := 1, cells := 0, slots := 0, locals := 24 }
theorem yX11_any_ok : xY yX11_any cX11_any 2 (some .boolean) 0 := ⟨xT_at 797 (by decide +kernel) rfl, xT_at 10 (by decide +kernel) rfl, by decide +kernel, by decide +kernel, by decide +kernel⟩
theorem ivX11_any : Cond.instanceMethod yX11_any ∈ xT := xT_at 796 (by decide +kernel) rfl
theorem slX11_any : Cond.selects yX11_any.cls yX11_any yX11_any ∈ xT := xT_priv (n := 18) 35 (by decide +kernel)
def rX11_det : Room := { frames := 0, cells := 0, slots := 0, locals := 0 }
theorem yX11_det_ok : xY yX11_det cX11_det 1 (some .long) 1 := ⟨xT_at 800 (by decide +kernel) rfl, xT_at 10 (by decide +kernel) rfl, by decide +kernel, by decide +kernel, by decide +kernel⟩
theorem ssX11_det : Cond.static yX11_det ∈ xT := xT_at 799 (by decide +kernel) rfl
def rX11_simple : Room := { frames := 2, cells := 0, slots := 0, locals := 43 }
theorem yX11_simple_ok : xY yX11_simple cX11_simple 18 (some .boolean) 3 := ⟨xT_at 804 (by decide +kernel) rfl, xT_at 10 (by decide +kernel) rfl, by decide +kernel, by decide +kernel, by decide +kernel⟩
theorem ivX11_simple : Cond.instanceMethod yX11_simple ∈ xT := xT_at 803 (by decide +kernel) rfl
theorem slX11_simple : Cond.selects yX11_simple.cls yX11_simple yX11_simple ∈ xT := xT_priv (n := 18) 36 (by decide +kernel)
def rX11_mayBe : Room := { frames := 3, cells := 0, slots := 0, locals := 73 }
theorem yX11_mayBe_ok : xY yX11_mayBe cX11_mayBe 5 (some .boolean) 1 := ⟨xT_at 808 (by decide +kernel) rfl, xT_at 10 (by decide +kernel) rfl, by decide +kernel, by decide +kernel, by decide +kernel⟩
theorem ivX11_mayBe : Cond.instanceMethod yX11_mayBe ∈ xT := xT_at 807 (by decide +kernel) rfl
theorem slX11_mayBe : Cond.selects yX11_mayBe.cls yX11_mayBe yX11_mayBe ∈ xT := xT_priv (n := 18) 37 (by decide +kernel)
def rX11_byPoints : Room := { frames := 5, cells := 0, slots := 0, locals := 122 }
theorem yX11_byPoints_ok : xY yX11_byPoints cX11_byPoints 4 (some .int) 1 := ⟨xT_at 812 (by decide +kernel) rfl, xT_at 10 (by decide +kernel) rfl, by decide +kernel, by decide +kernel, by decide +kernel⟩
theorem ivX11_byPoints : Cond.instanceMethod yX11_byPoints ∈ xT := xT_at 811 (by decide +kernel) rfl
theorem slX11_byPoints : Cond.selects yX11_byPoints.cls yX11_byPoints yX11_byPoints ∈ xT := xT_priv (n := 18) 38 (by decide +kernel)
def rX11_likeness : Room := { frames := 3, cells := 0, slots := 0, locals := 74 }
theorem yX11_likeness_ok : xY yX11_likeness cX11_likeness 15 (none : Option Jvm.ClassFile.FieldType) 0 := ⟨xT_at 819 (by decide +kernel) rfl, xT_at 10 (by decide +kernel) rfl, by decide +kernel, by decide +kernel, by decide +kernel⟩
theorem ivX11_likeness : Cond.instanceMethod yX11_likeness ∈ xT := xT_at 818 (by decide +kernel) rfl
theorem slX11_likeness : Cond.selects yX11_likeness.cls yX11_likeness yX11_likeness ∈ xT := xT_priv (n := 18) 39 (by decide +kernel)
def rX11_place : Room := { frames := 2, cells := 0, slots := 0, locals := 52 }
theorem yX11_place_ok : xY yX11_place cX11_place 3 (some .long) 2 := ⟨xT_at 823 (by decide +kernel) rfl, xT_at 10 (by decide +kernel) rfl, by decide +kernel, by decide +kernel, by decide +kernel⟩
theorem ivX11_place : Cond.instanceMethod yX11_place ∈ xT := xT_at 822 (by decide +kernel) rfl
theorem slX11_place : Cond.selects yX11_place.cls yX11_place yX11_place ∈ xT := xT_priv (n := 18) 40 (by decide +kernel)
def rX11_mod : Room := { frames := 0, cells := 0, slots := 0, locals := 0 }
theorem yX11_mod_ok : xY yX11_mod cX11_mod 5 (some .long) 1 := ⟨xT_at 827 (by decide +kernel) rfl, xT_at 10 (by decide +kernel) rfl, by decide +kernel, by decide +kernel, by decide +kernel⟩
theorem ivX11_mod : Cond.instanceMethod yX11_mod ∈ xT := xT_at 826 (by decide +kernel) rfl
theorem slX11_mod : Cond.selects yX11_mod.cls yX11_mod yX11_mod ∈ xT := xT_priv (n := 18) 41 (by decide +kernel)
def rX11_inverse : Room := { frames := 1, cells := 0, slots := 0, locals := 24 }
theorem yX11_inverse_ok : xY yX11_inverse cX11_inverse 9 (some .long) 1 := ⟨xT_at 831 (by decide +kernel) rfl, xT_at 10 (by decide +kernel) rfl, by decide +kernel, by decide +kernel, by decide +kernel⟩
theorem ivX11_inverse : Cond.instanceMethod yX11_inverse ∈ xT := xT_at 830 (by decide +kernel) rfl
theorem slX11_inverse : Cond.selects yX11_inverse.cls yX11_inverse yX11_inverse ∈ xT := xT_priv (n := 18) 42 (by decide +kernel)
def rX11_affine : Room := { frames := 3, cells := 0, slots := 0, locals := 70 }
theorem yX11_affine_ok : xY yX11_affine cX11_affine 8 (none : Option Jvm.ClassFile.FieldType) 0 := ⟨xT_at 835 (by decide +kernel) rfl, xT_at 10 (by decide +kernel) rfl, by decide +kernel, by decide +kernel, by decide +kernel⟩
theorem ivX11_affine : Cond.instanceMethod yX11_affine ∈ xT := xT_at 834 (by decide +kernel) rfl
theorem slX11_affine : Cond.selects yX11_affine.cls yX11_affine yX11_affine ∈ xT := xT_priv (n := 18) 43 (by decide +kernel)
def rX11_turned : Room := { frames := 2, cells := 0, slots := 0, locals := 47 }
theorem yX11_turned_ok : xY yX11_turned cX11_turned 4 (some .long) 3 := ⟨xT_at 839 (by decide +kernel) rfl, xT_at 10 (by decide +kernel) rfl, by decide +kernel, by decide +kernel, by decide +kernel⟩
theorem ivX11_turned : Cond.instanceMethod yX11_turned ∈ xT := xT_at 838 (by decide +kernel) rfl
theorem slX11_turned : Cond.selects yX11_turned.cls yX11_turned yX11_turned ∈ xT := xT_priv (n := 18) 44 (by decide +kernel)
def rX11_projective : Room := { frames := 4, cells := 0, slots := 0, locals := 95 }
theorem yX11_projective_ok : xY yX11_projective cX11_projective 8 (none : Option Jvm.ClassFile.FieldType) 0 := ⟨xT_at 843 (by decide +kernel) rfl, xT_at 10 (by decide +kernel) rfl, by decide +kernel, by decide +kernel, by decide +kernel⟩
theorem ivX11_projective : Cond.instanceMethod yX11_projective ∈ xT := xT_at 842 (by decide +kernel) rfl
theorem slX11_projective : Cond.selects yX11_projective.cls yX11_projective yX11_projective ∈ xT := xT_priv (n := 18) 45 (by decide +kernel)
def rX11_share : Room := { frames := 3, cells := 0, slots := 0, locals := 70 }
theorem yX11_share_ok : xY yX11_share cX11_share 6 (some .long) 2 := ⟨xT_at 847 (by decide +kernel) rfl, xT_at 10 (by decide +kernel) rfl, by decide +kernel, by decide +kernel, by decide +kernel⟩
theorem ivX11_share : Cond.instanceMethod yX11_share ∈ xT := xT_at 846 (by decide +kernel) rfl
theorem slX11_share : Cond.selects yX11_share.cls yX11_share yX11_share ∈ xT := xT_priv (n := 18) 46 (by decide +kernel)
def rX11_tellBack : Room := { frames := 2, cells := 0, slots := 0, locals := 57 }
theorem yX11_tellBack_ok : xY yX11_tellBack cX11_tellBack 7 (some .boolean) 0 := ⟨xT_at 851 (by decide +kernel) rfl, xT_at 10 (by decide +kernel) rfl, by decide +kernel, by decide +kernel, by decide +kernel⟩
theorem ivX11_tellBack : Cond.instanceMethod yX11_tellBack ∈ xT := xT_at 850 (by decide +kernel) rfl
theorem slX11_tellBack : Cond.selects yX11_tellBack.cls yX11_tellBack yX11_tellBack ∈ xT := xT_priv (n := 18) 47 (by decide +kernel)
def rX11_small : Room := { frames := 0, cells := 0, slots := 0, locals := 0 }
theorem yX11_small_ok : xY yX11_small cX11_small 7 (some .boolean) 1 := ⟨xT_at 855 (by decide +kernel) rfl, xT_at 10 (by decide +kernel) rfl, by decide +kernel, by decide +kernel, by decide +kernel⟩
theorem ivX11_small : Cond.instanceMethod yX11_small ∈ xT := xT_at 854 (by decide +kernel) rfl
theorem slX11_small : Cond.selects yX11_small.cls yX11_small yX11_small ∈ xT := xT_priv (n := 18) 48 (by decide +kernel)
def rX11_isTried : Room := { frames := 2, cells := 0, slots := 0, locals := 46 }
theorem yX11_isTried_ok : xY yX11_isTried cX11_isTried 5 (some .boolean) 2 := ⟨xT_at 859 (by decide +kernel) rfl, xT_at 10 (by decide +kernel) rfl, by decide +kernel, by decide +kernel, by decide +kernel⟩
theorem ivX11_isTried : Cond.instanceMethod yX11_isTried ∈ xT := xT_at 858 (by decide +kernel) rfl
theorem slX11_isTried : Cond.selects yX11_isTried.cls yX11_isTried yX11_isTried ∈ xT := xT_priv (n := 18) 49 (by decide +kernel)
def rX11_takes : Room := { frames := 1, cells := 0, slots := 0, locals := 22 }
theorem yX11_takes_ok : xY yX11_takes cX11_takes 5 (some .boolean) 2 := ⟨xT_at 863 (by decide +kernel) rfl, xT_at 10 (by decide +kernel) rfl, by decide +kernel, by decide +kernel, by decide +kernel⟩
theorem ivX11_takes : Cond.instanceMethod yX11_takes ∈ xT := xT_at 862 (by decide +kernel) rfl
theorem slX11_takes : Cond.selects yX11_takes.cls yX11_takes yX11_takes ∈ xT := xT_priv (n := 18) 50 (by decide +kernel)
def rX11_map : Room := { frames := 2, cells := 0, slots := 0, locals := 57 }
theorem yX11_map_ok : xY yX11_map cX11_map 4 (some .int) 0 := ⟨xT_at 867 (by decide +kernel) rfl, xT_at 10 (by decide +kernel) rfl, by decide +kernel, by decide +kernel, by decide +kernel⟩
theorem ivX11_map : Cond.instanceMethod yX11_map ∈ xT := xT_at 866 (by decide +kernel) rfl
theorem slX11_map : Cond.selects yX11_map.cls yX11_map yX11_map ∈ xT := xT_priv (n := 18) 51 (by decide +kernel)
def rX11_count : Room := { frames := 0, cells := 0, slots := 0, locals := 0 }
theorem yX11_count_ok : xY yX11_count cX11_count 2 (some .int) 1 := ⟨xT_at 871 (by decide +kernel) rfl, xT_at 10 (by decide +kernel) rfl, by decide +kernel, by decide +kernel, by decide +kernel⟩
theorem ivX11_count : Cond.instanceMethod yX11_count ∈ xT := xT_at 869 (by decide +kernel) rfl
theorem slX11_count : Cond.selects yX11_count.cls yX11_count yX11_count ∈ xT := xT_at 870 (by decide +kernel) rfl
def rX11_entry : Room := { frames := 1, cells := 0, slots := 0, locals := 25 }
theorem yX11_entry_ok : xY yX11_entry cX11_entry 3 (some .int) 2 := ⟨xT_at 875 (by decide +kernel) rfl, xT_at 10 (by decide +kernel) rfl, by decide +kernel, by decide +kernel, by decide +kernel⟩
theorem ivX11_entry : Cond.instanceMethod yX11_entry ∈ xT := xT_at 873 (by decide +kernel) rfl
theorem slX11_entry : Cond.selects yX11_entry.cls yX11_entry yX11_entry ∈ xT := xT_at 874 (by decide +kernel) rfl
def rX11_isMap : Room := { frames := 0, cells := 0, slots := 0, locals := 0 }
theorem yX11_isMap_ok : xY yX11_isMap cX11_isMap 2 (some .boolean) 1 := ⟨xT_at 879 (by decide +kernel) rfl, xT_at 10 (by decide +kernel) rfl, by decide +kernel, by decide +kernel, by decide +kernel⟩
theorem ivX11_isMap : Cond.instanceMethod yX11_isMap ∈ xT := xT_at 878 (by decide +kernel) rfl
theorem slX11_isMap : Cond.selects yX11_isMap.cls yX11_isMap yX11_isMap ∈ xT := xT_priv (n := 18) 52 (by decide +kernel)
def rX11_then : Room := { frames := 3, cells := 0, slots := 0, locals := 80 }
theorem yX11_then_ok : xY yX11_then cX11_then 3 (some .int) 2 := ⟨xT_at 883 (by decide +kernel) rfl, xT_at 10 (by decide +kernel) rfl, by decide +kernel, by decide +kernel, by decide +kernel⟩
theorem ivX11_then : Cond.instanceMethod yX11_then ∈ xT := xT_at 881 (by decide +kernel) rfl
theorem slX11_then : Cond.selects yX11_then.cls yX11_then yX11_then ∈ xT := xT_at 882 (by decide +kernel) rfl
def rX11_bring : Room := { frames := 0, cells := 0, slots := 0, locals := 0 }
theorem yX11_bring_ok : xY yX11_bring cX11_bring 4 (none : Option Jvm.ClassFile.FieldType) 2 := ⟨xT_at 887 (by decide +kernel) rfl, xT_at 10 (by decide +kernel) rfl, by decide +kernel, by decide +kernel, by decide +kernel⟩
theorem ivX11_bring : Cond.instanceMethod yX11_bring ∈ xT := xT_at 886 (by decide +kernel) rfl
theorem slX11_bring : Cond.selects yX11_bring.cls yX11_bring yX11_bring ∈ xT := xT_priv (n := 18) 53 (by decide +kernel)
def rX11_back : Room := { frames := 3, cells := 0, slots := 0, locals := 80 }
theorem yX11_back_ok : xY yX11_back cX11_back 2 (some .int) 1 := ⟨xT_at 891 (by decide +kernel) rfl, xT_at 10 (by decide +kernel) rfl, by decide +kernel, by decide +kernel, by decide +kernel⟩
theorem ivX11_back : Cond.instanceMethod yX11_back ∈ xT := xT_at 889 (by decide +kernel) rfl
theorem slX11_back : Cond.selects yX11_back.cls yX11_back yX11_back ∈ xT := xT_at 890 (by decide +kernel) rfl
def rX11_turnBack : Room := { frames := 0, cells := 0, slots := 0, locals := 0 }
theorem yX11_turnBack_ok : xY yX11_turnBack cX11_turnBack 8 (none : Option Jvm.ClassFile.FieldType) 2 := ⟨xT_at 894 (by decide +kernel) rfl, xT_at 10 (by decide +kernel) rfl, by decide +kernel, by decide +kernel, by decide +kernel⟩
theorem ssX11_turnBack : Cond.static yX11_turnBack ∈ xT := xT_at 893 (by decide +kernel) rfl
def rX11_image : Room := { frames := 3, cells := 0, slots := 0, locals := 82 }
theorem yX11_image_ok : xY yX11_image cX11_image 6 (some .int) 2 := ⟨xT_at 898 (by decide +kernel) rfl, xT_at 10 (by decide +kernel) rfl, by decide +kernel, by decide +kernel, by decide +kernel⟩
theorem ivX11_image : Cond.instanceMethod yX11_image ∈ xT := xT_at 896 (by decide +kernel) rfl
theorem slX11_image : Cond.selects yX11_image.cls yX11_image yX11_image ∈ xT := xT_at 897 (by decide +kernel) rfl
def rX11_conicImage : Room := { frames := 1, cells := 0, slots := 0, locals := 24 }
theorem yX11_conicImage_ok : xY yX11_conicImage cX11_conicImage 5 (none : Option Jvm.ClassFile.FieldType) 1 := ⟨xT_at 902 (by decide +kernel) rfl, xT_at 10 (by decide +kernel) rfl, by decide +kernel, by decide +kernel, by decide +kernel⟩
theorem ivX11_conicImage : Cond.instanceMethod yX11_conicImage ∈ xT := xT_at 901 (by decide +kernel) rfl
theorem slX11_conicImage : Cond.selects yX11_conicImage.cls yX11_conicImage yX11_conicImage ∈ xT := xT_priv (n := 18) 54 (by decide +kernel)
def rX11_kind : Room := { frames := 3, cells := 0, slots := 0, locals := 81 }
theorem yX11_kind_ok : xY yX11_kind cX11_kind 2 (some .int) 1 := ⟨xT_at 906 (by decide +kernel) rfl, xT_at 10 (by decide +kernel) rfl, by decide +kernel, by decide +kernel, by decide +kernel⟩
theorem ivX11_kind : Cond.instanceMethod yX11_kind ∈ xT := xT_at 904 (by decide +kernel) rfl
theorem slX11_kind : Cond.selects yX11_kind.cls yX11_kind yX11_kind ∈ xT := xT_at 905 (by decide +kernel) rfl
def rX11_isAll : Room := { frames := 0, cells := 0, slots := 0, locals := 0 }
theorem yX11_isAll_ok : xY yX11_isAll cX11_isAll 2 (some .boolean) 1 := ⟨xT_at 910 (by decide +kernel) rfl, xT_at 10 (by decide +kernel) rfl, by decide +kernel, by decide +kernel, by decide +kernel⟩
theorem ivX11_isAll : Cond.instanceMethod yX11_isAll ∈ xT := xT_at 909 (by decide +kernel) rfl
theorem slX11_isAll : Cond.selects yX11_isAll.cls yX11_isAll yX11_isAll ∈ xT := xT_priv (n := 18) 55 (by decide +kernel)
def rX11_flatKind : Room := { frames := 2, cells := 0, slots := 0, locals := 48 }
theorem yX11_flatKind_ok : xY yX11_flatKind cX11_flatKind 14 (some .int) 0 := ⟨xT_at 914 (by decide +kernel) rfl, xT_at 10 (by decide +kernel) rfl, by decide +kernel, by decide +kernel, by decide +kernel⟩
theorem ivX11_flatKind : Cond.instanceMethod yX11_flatKind ∈ xT := xT_at 913 (by decide +kernel) rfl
theorem slX11_flatKind : Cond.selects yX11_flatKind.cls yX11_flatKind yX11_flatKind ∈ xT := xT_priv (n := 18) 56 (by decide +kernel)
def rX11_isTwiceAll : Room := { frames := 1, cells := 0, slots := 0, locals := 24 }
theorem yX11_isTwiceAll_ok : xY yX11_isTwiceAll cX11_isTwiceAll 2 (some .boolean) 1 := ⟨xT_at 918 (by decide +kernel) rfl, xT_at 10 (by decide +kernel) rfl, by decide +kernel, by decide +kernel, by decide +kernel⟩
theorem ivX11_isTwiceAll : Cond.instanceMethod yX11_isTwiceAll ∈ xT := xT_at 917 (by decide +kernel) rfl
theorem slX11_isTwiceAll : Cond.selects yX11_isTwiceAll.cls yX11_isTwiceAll yX11_isTwiceAll ∈ xT := xT_priv (n := 18) 57 (by decide +kernel)
def rX11_rank : Room := { frames := 1, cells := 0, slots := 0, locals := 20 }
theorem yX11_rank_ok : xY yX11_rank cX11_rank 9 (some .int) 2 := ⟨xT_at 922 (by decide +kernel) rfl, xT_at 10 (by decide +kernel) rfl, by decide +kernel, by decide +kernel, by decide +kernel⟩
theorem ivX11_rank : Cond.instanceMethod yX11_rank ∈ xT := xT_at 921 (by decide +kernel) rfl
theorem slX11_rank : Cond.selects yX11_rank.cls yX11_rank yX11_rank ∈ xT := xT_priv (n := 18) 58 (by decide +kernel)
def rX11_farKind : Room := { frames := 2, cells := 0, slots := 0, locals := 48 }
theorem yX11_farKind_ok : xY yX11_farKind cX11_farKind 12 (some .int) 0 := ⟨xT_at 926 (by decide +kernel) rfl, xT_at 10 (by decide +kernel) rfl, by decide +kernel, by decide +kernel, by decide +kernel⟩
theorem ivX11_farKind : Cond.instanceMethod yX11_farKind ∈ xT := xT_at 925 (by decide +kernel) rfl
theorem slX11_farKind : Cond.selects yX11_farKind.cls yX11_farKind yX11_farKind ∈ xT := xT_priv (n := 18) 59 (by decide +kernel)
def rX11_own : Room := { frames := 3, cells := 0, slots := 0, locals := 72 }
theorem yX11_own_ok : xY yX11_own cX11_own 3 (some .long) 2 := ⟨xT_at 932 (by decide +kernel) rfl, xT_at 10 (by decide +kernel) rfl, by decide +kernel, by decide +kernel, by decide +kernel⟩
theorem ivX11_own : Cond.instanceMethod yX11_own ∈ xT := xT_at 930 (by decide +kernel) rfl
theorem slX11_own : Cond.selects yX11_own.cls yX11_own yX11_own ∈ xT := xT_at 931 (by decide +kernel) rfl
def rX11_value : Room := { frames := 2, cells := 0, slots := 0, locals := 48 }
theorem yX11_value_ok : xY yX11_value cX11_value 5 (some .long) 1 := ⟨xT_at 936 (by decide +kernel) rfl, xT_at 10 (by decide +kernel) rfl, by decide +kernel, by decide +kernel, by decide +kernel⟩
theorem ivX11_value : Cond.instanceMethod yX11_value ∈ xT := xT_at 935 (by decide +kernel) rfl
theorem slX11_value : Cond.selects yX11_value.cls yX11_value yX11_value ∈ xT := xT_priv (n := 18) 60 (by decide +kernel)
def rX11_fixed : Room := { frames := 3, cells := 0, slots := 0, locals := 82 }
theorem yX11_fixed_ok : xY yX11_fixed cX11_fixed 6 (some .int) 2 := ⟨xT_at 940 (by decide +kernel) rfl, xT_at 10 (by decide +kernel) rfl, by decide +kernel, by decide +kernel, by decide +kernel⟩
theorem ivX11_fixed : Cond.instanceMethod yX11_fixed ∈ xT := xT_at 938 (by decide +kernel) rfl
theorem slX11_fixed : Cond.selects yX11_fixed.cls yX11_fixed yX11_fixed ∈ xT := xT_at 939 (by decide +kernel) rfl
def rX11_order : Room := { frames := 2, cells := 0, slots := 0, locals := 57 }
theorem yX11_order_ok : xY yX11_order cX11_order 5 (some .int) 2 := ⟨xT_at 944 (by decide +kernel) rfl, xT_at 10 (by decide +kernel) rfl, by decide +kernel, by decide +kernel, by decide +kernel⟩
theorem ivX11_order : Cond.instanceMethod yX11_order ∈ xT := xT_at 942 (by decide +kernel) rfl
theorem slX11_order : Cond.selects yX11_order.cls yX11_order yX11_order ∈ xT := xT_at 943 (by decide +kernel) rfl
def rX11_seed : Room := { frames := 1, cells := 0, slots := 0, locals := 21 }
theorem yX11_seed_ok : xY yX11_seed cX11_seed 2 (some .int) 1 := ⟨xT_at 949 (by decide +kernel) rfl, xT_at 10 (by decide +kernel) rfl, by decide +kernel, by decide +kernel, by decide +kernel⟩
theorem ivX11_seed : Cond.instanceMethod yX11_seed ∈ xT := xT_at 947 (by decide +kernel) rfl
theorem slX11_seed : Cond.selects yX11_seed.cls yX11_seed yX11_seed ∈ xT := xT_at 948 (by decide +kernel) rfl
def rX11_group : Room := { frames := 2, cells := 0, slots := 0, locals := 57 }
theorem yX11_group_ok : xY yX11_group cX11_group 6 (some .int) 1 := ⟨xT_at 953 (by decide +kernel) rfl, xT_at 10 (by decide +kernel) rfl, by decide +kernel, by decide +kernel, by decide +kernel⟩
theorem ivX11_group : Cond.instanceMethod yX11_group ∈ xT := xT_at 951 (by decide +kernel) rfl
theorem slX11_group : Cond.selects yX11_group.cls yX11_group yX11_group ∈ xT := xT_at 952 (by decide +kernel) rfl
def rX11_find : Room := { frames := 0, cells := 0, slots := 0, locals := 0 }
theorem yX11_find_ok : xY yX11_find cX11_find 4 (some .int) 0 := ⟨xT_at 958 (by decide +kernel) rfl, xT_at 10 (by decide +kernel) rfl, by decide +kernel, by decide +kernel, by decide +kernel⟩
theorem ivX11_find : Cond.instanceMethod yX11_find ∈ xT := xT_at 957 (by decide +kernel) rfl
theorem slX11_find : Cond.selects yX11_find.cls yX11_find yX11_find ∈ xT := xT_priv (n := 18) 61 (by decide +kernel)
def rX11_element : Room := { frames := 1, cells := 0, slots := 0, locals := 25 }
theorem yX11_element_ok : xY yX11_element cX11_element 3 (some .int) 2 := ⟨xT_at 962 (by decide +kernel) rfl, xT_at 10 (by decide +kernel) rfl, by decide +kernel, by decide +kernel, by decide +kernel⟩
theorem ivX11_element : Cond.instanceMethod yX11_element ∈ xT := xT_at 960 (by decide +kernel) rfl
theorem slX11_element : Cond.selects yX11_element.cls yX11_element yX11_element ∈ xT := xT_at 961 (by decide +kernel) rfl
def rX11_among : Room := { frames := 1, cells := 0, slots := 0, locals := 23 }
theorem yX11_among_ok : xY yX11_among cX11_among 2 (some .int) 1 := ⟨xT_at 966 (by decide +kernel) rfl, xT_at 10 (by decide +kernel) rfl, by decide +kernel, by decide +kernel, by decide +kernel⟩
theorem ivX11_among : Cond.instanceMethod yX11_among ∈ xT := xT_at 964 (by decide +kernel) rfl
theorem slX11_among : Cond.selects yX11_among.cls yX11_among yX11_among ∈ xT := xT_at 965 (by decide +kernel) rfl
theorem lkL_13 : Cond.methodLink RL 13 yX10_point ∈ xT := xT_at 240 (by decide +kernel) rfl
theorem lkL_17 : Cond.methodLink RL 17 yX11_point ∈ xT := xT_at 678 (by decide +kernel) rfl
theorem lkL_18 : Cond.methodLink RL 18 yX10_line ∈ xT := xT_at 271 (by decide +kernel) rfl
theorem lkL_21 : Cond.methodLink RL 21 yX11_line ∈ xT := xT_at 703 (by decide +kernel) rfl
theorem lkL_22 : Cond.methodLink RL 22 yX10_conic ∈ xT := xT_at 275 (by decide +kernel) rfl
theorem lkL_26 : Cond.methodLink RL 26 yX11_conic ∈ xT := xT_at 707 (by decide +kernel) rfl
theorem lkL_27 : Cond.methodLink RL 27 yX10_number ∈ xT := xT_at 279 (by decide +kernel) rfl
theorem lkL_31 : Cond.methodLink RL 31 yX11_number ∈ xT := xT_at 711 (by decide +kernel) rfl
theorem lkL_32 : Cond.methodLink RL 32 yX10_join ∈ xT := xT_at 292 (by decide +kernel) rfl
theorem lkL_35 : Cond.methodLink RL 35 yX11_join ∈ xT := xT_at 717 (by decide +kernel) rfl
theorem lkL_36 : Cond.methodLink RL 36 yX10_on ∈ xT := xT_at 306 (by decide +kernel) rfl
theorem lkL_39 : Cond.methodLink RL 39 yX11_on ∈ xT := xT_at 733 (by decide +kernel) rfl
theorem lkL_40 : Cond.methodLink RL 40 yX10_shape ∈ xT := xT_at 316 (by decide +kernel) rfl
theorem lkL_44 : Cond.methodLink RL 44 yX11_shape ∈ xT := xT_at 741 (by decide +kernel) rfl
theorem lkL_45 : Cond.methodLink RL 45 yX10_cross ∈ xT := xT_at 332 (by decide +kernel) rfl
theorem lkL_49 : Cond.methodLink RL 49 yX11_cross ∈ xT := xT_at 746 (by decide +kernel) rfl
theorem lkL_50 : Cond.methodLink RL 50 yX10_give ∈ xT := xT_at 343 (by decide +kernel) rfl
theorem lkL_53 : Cond.methodLink RL 53 yX11_give ∈ xT := xT_at 759 (by decide +kernel) rfl
theorem lkL_54 : Cond.methodLink RL 54 yX10_make ∈ xT := xT_at 352 (by decide +kernel) rfl
theorem lkL_57 : Cond.methodLink RL 57 yX11_make ∈ xT := xT_at 763 (by decide +kernel) rfl
theorem lkL_58 : Cond.methodLink RL 58 yX10_count ∈ xT := xT_at 447 (by decide +kernel) rfl
theorem lkL_61 : Cond.methodLink RL 61 yX11_count ∈ xT := xT_at 868 (by decide +kernel) rfl
theorem lkL_62 : Cond.methodLink RL 62 yX10_entry ∈ xT := xT_at 456 (by decide +kernel) rfl
theorem lkL_65 : Cond.methodLink RL 65 yX11_entry ∈ xT := xT_at 872 (by decide +kernel) rfl
theorem lkL_66 : Cond.methodLink RL 66 yX10_then ∈ xT := xT_at 460 (by decide +kernel) rfl
theorem lkL_69 : Cond.methodLink RL 69 yX11_then ∈ xT := xT_at 880 (by decide +kernel) rfl
theorem lkL_70 : Cond.methodLink RL 70 yX10_back ∈ xT := xT_at 467 (by decide +kernel) rfl
theorem lkL_73 : Cond.methodLink RL 73 yX11_back ∈ xT := xT_at 888 (by decide +kernel) rfl
theorem lkL_74 : Cond.methodLink RL 74 yX10_image ∈ xT := xT_at 475 (by decide +kernel) rfl
theorem lkL_77 : Cond.methodLink RL 77 yX11_image ∈ xT := xT_at 895 (by decide +kernel) rfl
theorem lkL_78 : Cond.methodLink RL 78 yX10_kind ∈ xT := xT_at 498 (by decide +kernel) rfl
theorem lkL_81 : Cond.methodLink RL 81 yX11_kind ∈ xT := xT_at 903 (by decide +kernel) rfl
theorem lkL_82 : Cond.methodLink RL 82 yX10_own ∈ xT := xT_at 570 (by decide +kernel) rfl
theorem lkL_86 : Cond.methodLink RL 86 yX11_own ∈ xT := xT_at 929 (by decide +kernel) rfl
theorem lkL_87 : Cond.methodLink RL 87 yX10_fixed ∈ xT := xT_at 577 (by decide +kernel) rfl
theorem lkL_90 : Cond.methodLink RL 90 yX11_fixed ∈ xT := xT_at 937 (by decide +kernel) rfl
theorem lkL_91 : Cond.methodLink RL 91 yX10_order ∈ xT := xT_at 582 (by decide +kernel) rfl
theorem lkL_94 : Cond.methodLink RL 94 yX11_order ∈ xT := xT_at 941 (by decide +kernel) rfl
theorem lkL_95 : Cond.methodLink RL 95 yX10_seed ∈ xT := xT_at 588 (by decide +kernel) rfl
theorem lkL_98 : Cond.methodLink RL 98 yX11_seed ∈ xT := xT_at 946 (by decide +kernel) rfl
theorem lkL_99 : Cond.methodLink RL 99 yX10_group ∈ xT := xT_at 592 (by decide +kernel) rfl
theorem lkL_102 : Cond.methodLink RL 102 yX11_group ∈ xT := xT_at 950 (by decide +kernel) rfl
theorem lkL_103 : Cond.methodLink RL 103 yX10_element ∈ xT := xT_at 608 (by decide +kernel) rfl
theorem lkL_106 : Cond.methodLink RL 106 yX11_element ∈ xT := xT_at 959 (by decide +kernel) rfl
theorem lkL_107 : Cond.methodLink RL 107 yX10_among ∈ xT := xT_at 612 (by decide +kernel) rfl
theorem lkL_110 : Cond.methodLink RL 110 yX11_among ∈ xT := xT_at 963 (by decide +kernel) rfl
theorem lkX0_30 : Cond.methodLink RX0 30 yX0_restart ∈ xT := xT_at 147 (by decide +kernel) rfl
theorem lkX0_33 : Cond.methodLink RX0 33 yX8_size ∈ xT := xT_at 600 (by decide +kernel) rfl
theorem lkX0_37 : Cond.methodLink RX0 37 yX4_size ∈ xT := xT_at 601 (by decide +kernel) rfl
theorem lkX0_40 : Cond.methodLink RX0 40 yX8_load ∈ xT := xT_at 602 (by decide +kernel) rfl
theorem lkX0_44 : Cond.methodLink RX0 44 yX4_member ∈ xT := xT_at 603 (by decide +kernel) rfl
theorem lkX0_48 : Cond.methodLink RX0 48 yX9_product ∈ xT := xT_at 604 (by decide +kernel) rfl
theorem lkX0_56 : Cond.methodLink RX0 56 yX3_reduce ∈ xT := xT_at 606 (by decide +kernel) rfl
theorem lkX0_62 : Cond.methodLink RX0 62 yX8_find ∈ xT := xT_at 607 (by decide +kernel) rfl
theorem lkX0_66 : Cond.methodLink RX0 66 yX8_keep ∈ xT := xT_at 158 (by decide +kernel) rfl
theorem lkX0_69 : Cond.methodLink RX0 69 yX8_clear ∈ xT := xT_at 151 (by decide +kernel) rfl
theorem lkX0_72 : Cond.methodLink RX0 72 yX9_putRow ∈ xT := xT_at 155 (by decide +kernel) rfl
theorem lkX1_24 : Cond.methodLink RX1 24 yX9_adjugate ∈ xT := xT_at 483 (by decide +kernel) rfl
theorem lkX1_30 : Cond.methodLink RX1 30 yX9_transpose ∈ xT := xT_at 484 (by decide +kernel) rfl
theorem lkX1_33 : Cond.methodLink RX1 33 yX9_apply ∈ xT := xT_at 497 (by decide +kernel) rfl
theorem lkX1_37 : Cond.methodLink RX1 37 yX7_evenTable ∈ xT := xT_at 487 (by decide +kernel) rfl
theorem lkX1_42 : Cond.methodLink RX1 42 yX9_product ∈ xT := xT_at 488 (by decide +kernel) rfl
theorem lkX10_87 : Cond.methodLink RX10 87 yX10_keepTriple ∈ xT := xT_at 244 (by decide +kernel) rfl
theorem lkX10_91 : Cond.methodLink RX10 91 yX10_keepGiven ∈ xT := xT_at 248 (by decide +kernel) rfl
theorem lkX10_95 : Cond.methodLink RX10 95 yX8_sortOf ∈ xT := xT_at 283 (by decide +kernel) rfl
theorem lkX10_99 : Cond.methodLink RX10 99 yX8_cell ∈ xT := xT_at 291 (by decide +kernel) rfl
theorem lkX10_103 : Cond.methodLink RX10 103 yX8_load ∈ xT := xT_at 296 (by decide +kernel) rfl
theorem lkX10_107 : Cond.methodLink RX10 107 yX7_wedge ∈ xT := xT_at 300 (by decide +kernel) rfl
theorem lkX10_113 : Cond.methodLink RX10 113 yX10_keepObject ∈ xT := xT_at 256 (by decide +kernel) rfl
theorem lkX10_116 : Cond.methodLink RX10 116 yX7_dot ∈ xT := xT_at 310 (by decide +kernel) rfl
theorem lkX10_120 : Cond.methodLink RX10 120 yX7_conicAt ∈ xT := xT_at 313 (by decide +kernel) rfl
theorem lkX10_123 : Cond.methodLink RX10 123 yX7_shapeOf ∈ xT := xT_at 320 (by decide +kernel) rfl
theorem lkX10_131 : Cond.methodLink RX10 131 yX10_crossRatio ∈ xT := xT_at 337 (by decide +kernel) rfl
theorem lkX10_135 : Cond.methodLink RX10 135 yX8_has ∈ xT := xT_at 347 (by decide +kernel) rfl
theorem lkX10_139 : Cond.methodLink RX10 139 yX4_append ∈ xT := xT_at 348 (by decide +kernel) rfl
theorem lkX10_144 : Cond.methodLink RX10 144 yX10_beyond ∈ xT := xT_at 253 (by decide +kernel) rfl
theorem lkX10_148 : Cond.methodLink RX10 148 yX5_take ∈ xT := xT_at 357 (by decide +kernel) rfl
theorem lkX10_152 : Cond.methodLink RX10 152 yX4_clear ∈ xT := xT_at 372 (by decide +kernel) rfl
theorem lkX10_155 : Cond.methodLink RX10 155 yX5_build ∈ xT := xT_at 376 (by decide +kernel) rfl
theorem lkX10_159 : Cond.methodLink RX10 159 yX10_keepMap ∈ xT := xT_at 443 (by decide +kernel) rfl
theorem lkX10_163 : Cond.methodLink RX10 163 yX8_size ∈ xT := xT_at 451 (by decide +kernel) rfl
theorem lkX10_167 : Cond.methodLink RX10 167 yX4_size ∈ xT := xT_at 455 (by decide +kernel) rfl
theorem lkX10_168 : Cond.methodLink RX10 168 yX9_product ∈ xT := xT_at 464 (by decide +kernel) rfl
theorem lkX10_173 : Cond.methodLink RX10 173 yX9_adjugate ∈ xT := xT_at 471 (by decide +kernel) rfl
theorem lkX10_177 : Cond.methodLink RX10 177 yX1_ofConic ∈ xT := xT_at 479 (by decide +kernel) rfl
theorem lkX10_180 : Cond.methodLink RX10 180 yX9_apply ∈ xT := xT_at 490 (by decide +kernel) rfl
theorem lkX10_183 : Cond.methodLink RX10 183 yX1_ofLine ∈ xT := xT_at 493 (by decide +kernel) rfl
theorem lkX10_186 : Cond.methodLink RX10 186 yX2_keepsFar ∈ xT := xT_at 502 (by decide +kernel) rfl
theorem lkX10_192 : Cond.methodLink RX10 192 yX2_ofAffine ∈ xT := xT_at 505 (by decide +kernel) rfl
theorem lkX10_195 : Cond.methodLink RX10 195 yX2_ofProjective ∈ xT := xT_at 524 (by decide +kernel) rfl
theorem lkX10_199 : Cond.methodLink RX10 199 yX6_find ∈ xT := xT_at 574 (by decide +kernel) rfl
theorem lkX10_203 : Cond.methodLink RX10 203 yX6_has ∈ xT := xT_at 575 (by decide +kernel) rfl
theorem lkX10_204 : Cond.methodLink RX10 204 yX6_value ∈ xT := xT_at 576 (by decide +kernel) rfl
theorem lkX10_207 : Cond.methodLink RX10 207 yX6_fixedBy ∈ xT := xT_at 581 (by decide +kernel) rfl
theorem lkX10_214 : Cond.methodLink RX10 214 yX2_allStays ∈ xT := xT_at 586 (by decide +kernel) rfl
theorem lkX10_219 : Cond.methodLink RX10 219 yX3_reduce ∈ xT := xT_at 260 (by decide +kernel) rfl
theorem lkX10_231 : Cond.methodLink RX10 231 yX0_grow ∈ xT := xT_at 596 (by decide +kernel) rfl
theorem lkX10_238 : Cond.methodLink RX10 238 yX8_find ∈ xT := xT_at 616 (by decide +kernel) rfl
theorem lkX10_240 : Cond.methodLink RX10 240 yX8_keep ∈ xT := xT_at 270 (by decide +kernel) rfl
theorem lkX10_243 : Cond.methodLink RX10 243 yX7_wedgeCell ∈ xT := xT_at 341 (by decide +kernel) rfl
theorem lkX10_247 : Cond.methodLink RX10 247 yX3_divisor ∈ xT := xT_at 342 (by decide +kernel) rfl
theorem lkX11_45 : Cond.methodLink RX11 45 yX11_gcd ∈ xT := xT_at 699 (by decide +kernel) rfl
theorem lkX11_58 : Cond.methodLink RX11 58 yX11_least ∈ xT := xT_at 695 (by decide +kernel) rfl
theorem lkX11_62 : Cond.methodLink RX11 62 yX11_in ∈ xT := xT_at 688 (by decide +kernel) rfl
theorem lkX11_66 : Cond.methodLink RX11 66 yX11_object ∈ xT := xT_at 691 (by decide +kernel) rfl
theorem lkX11_70 : Cond.methodLink RX11 70 yX11_three ∈ xT := xT_at 682 (by decide +kernel) rfl
theorem lkX11_78 : Cond.methodLink RX11 78 yX11_at ∈ xT := xT_at 729 (by decide +kernel) rfl
theorem lkX11_82 : Cond.methodLink RX11 82 yX11_isSort ∈ xT := xT_at 721 (by decide +kernel) rfl
theorem lkX11_86 : Cond.methodLink RX11 86 yX11_crossOf ∈ xT := xT_at 725 (by decide +kernel) rfl
theorem lkX11_90 : Cond.methodLink RX11 90 yX11_dot ∈ xT := xT_at 737 (by decide +kernel) rfl
theorem lkX11_95 : Cond.methodLink RX11 95 yX11_part ∈ xT := xT_at 754 (by decide +kernel) rfl
theorem lkX11_99 : Cond.methodLink RX11 99 yX11_areInLine ∈ xT := xT_at 750 (by decide +kernel) rfl
theorem lkX11_111 : Cond.methodLink RX11 111 yX11_areGiven ∈ xT := xT_at 774 (by decide +kernel) rfl
theorem lkX11_114 : Cond.methodLink RX11 114 yX11_isFar ∈ xT := xT_at 778 (by decide +kernel) rfl
theorem lkX11_120 : Cond.methodLink RX11 120 yX11_set ∈ xT := xT_at 783 (by decide +kernel) rfl
theorem lkX11_124 : Cond.methodLink RX11 124 yX11_mirror ∈ xT := xT_at 770 (by decide +kernel) rfl
theorem lkX11_128 : Cond.methodLink RX11 128 yX11_times ∈ xT := xT_at 791 (by decide +kernel) rfl
theorem lkX11_132 : Cond.methodLink RX11 132 yX11_det ∈ xT := xT_at 798 (by decide +kernel) rfl
theorem lkX11_140 : Cond.methodLink RX11 140 yX11_mod ∈ xT := xT_at 824 (by decide +kernel) rfl
theorem lkX11_144 : Cond.methodLink RX11 144 yX11_turned ∈ xT := xT_at 836 (by decide +kernel) rfl
theorem lkX11_147 : Cond.methodLink RX11 147 yX11_share ∈ xT := xT_at 844 (by decide +kernel) rfl
theorem lkX11_150 : Cond.methodLink RX11 150 yX11_inverse ∈ xT := xT_at 828 (by decide +kernel) rfl
theorem lkX11_153 : Cond.methodLink RX11 153 yX11_place ∈ xT := xT_at 820 (by decide +kernel) rfl
theorem lkX11_162 : Cond.methodLink RX11 162 yX11_small ∈ xT := xT_at 852 (by decide +kernel) rfl
theorem lkX11_166 : Cond.methodLink RX11 166 yX11_takes ∈ xT := xT_at 860 (by decide +kernel) rfl
theorem lkX11_175 : Cond.methodLink RX11 175 yX11_likeness ∈ xT := xT_at 816 (by decide +kernel) rfl
theorem lkX11_178 : Cond.methodLink RX11 178 yX11_affine ∈ xT := xT_at 832 (by decide +kernel) rfl
theorem lkX11_181 : Cond.methodLink RX11 181 yX11_projective ∈ xT := xT_at 840 (by decide +kernel) rfl
theorem lkX11_184 : Cond.methodLink RX11 184 yX11_tellBack ∈ xT := xT_at 848 (by decide +kernel) rfl
theorem lkX11_187 : Cond.methodLink RX11 187 yX11_isTried ∈ xT := xT_at 856 (by decide +kernel) rfl
theorem lkX11_190 : Cond.methodLink RX11 190 yX11_map ∈ xT := xT_at 864 (by decide +kernel) rfl
theorem lkX11_200 : Cond.methodLink RX11 200 yX11_glide ∈ xT := xT_at 787 (by decide +kernel) rfl
theorem lkX11_204 : Cond.methodLink RX11 204 yX11_any ∈ xT := xT_at 794 (by decide +kernel) rfl
theorem lkX11_207 : Cond.methodLink RX11 207 yX11_simple ∈ xT := xT_at 801 (by decide +kernel) rfl
theorem lkX11_211 : Cond.methodLink RX11 211 yX11_mayBe ∈ xT := xT_at 805 (by decide +kernel) rfl
theorem lkX11_214 : Cond.methodLink RX11 214 yX11_byPoints ∈ xT := xT_at 809 (by decide +kernel) rfl
theorem lkX11_217 : Cond.methodLink RX11 217 yX11_isMap ∈ xT := xT_at 876 (by decide +kernel) rfl
theorem lkX11_220 : Cond.methodLink RX11 220 yX11_bring ∈ xT := xT_at 884 (by decide +kernel) rfl
theorem lkX11_224 : Cond.methodLink RX11 224 yX11_turnBack ∈ xT := xT_at 892 (by decide +kernel) rfl
theorem lkX11_228 : Cond.methodLink RX11 228 yX11_conicImage ∈ xT := xT_at 899 (by decide +kernel) rfl
theorem lkX11_232 : Cond.methodLink RX11 232 yX11_isAll ∈ xT := xT_at 907 (by decide +kernel) rfl
theorem lkX11_236 : Cond.methodLink RX11 236 yX11_flatKind ∈ xT := xT_at 911 (by decide +kernel) rfl
theorem lkX11_239 : Cond.methodLink RX11 239 yX11_farKind ∈ xT := xT_at 923 (by decide +kernel) rfl
theorem lkX11_242 : Cond.methodLink RX11 242 yX11_isTwiceAll ∈ xT := xT_at 915 (by decide +kernel) rfl
theorem lkX11_245 : Cond.methodLink RX11 245 yX11_rank ∈ xT := xT_at 919 (by decide +kernel) rfl
theorem lkX11_253 : Cond.methodLink RX11 253 yX11_value ∈ xT := xT_at 933 (by decide +kernel) rfl
theorem lkX11_264 : Cond.methodLink RX11 264 yX11_find ∈ xT := xT_at 955 (by decide +kernel) rfl
theorem lkX2_7 : Cond.methodLink RX2 7 yX2_ofLikeness ∈ xT := xT_at 508 (by decide +kernel) rfl
theorem lkX2_13 : Cond.methodLink RX2 13 yX2_ofTurnedOver ∈ xT := xT_at 517 (by decide +kernel) rfl
theorem lkX2_16 : Cond.methodLink RX2 16 yX2_keepsLineOfPoints ∈ xT := xT_at 520 (by decide +kernel) rfl
theorem lkX2_26 : Cond.methodLink RX2 26 yX2_allStays ∈ xT := xT_at 511 (by decide +kernel) rfl
theorem lkX2_29 : Cond.methodLink RX2 29 yX2_keepsSizes ∈ xT := xT_at 514 (by decide +kernel) rfl
theorem lkX2_32 : Cond.methodLink RX2 32 yX6_find ∈ xT := xT_at 527 (by decide +kernel) rfl
theorem lkX2_38 : Cond.methodLink RX2 38 yX6_has ∈ xT := xT_at 547 (by decide +kernel) rfl
theorem lkX2_42 : Cond.methodLink RX2 42 yX6_value ∈ xT := xT_at 551 (by decide +kernel) rfl
theorem lkX2_46 : Cond.methodLink RX2 46 yX6_fixedBy ∈ xT := xT_at 556 (by decide +kernel) rfl
theorem lkX2_50 : Cond.methodLink RX2 50 yX9_trace ∈ xT := xT_at 568 (by decide +kernel) rfl
theorem lkX3_15 : Cond.methodLink RX3 15 yX3_divisor ∈ xT := xT_at 263 (by decide +kernel) rfl
theorem lkX3_19 : Cond.methodLinkNest RX3 19 yX10_beyond "TransformRows" ∈ tables_1 := List.mem_of_getElem? (i := 269) (by decide +kernel)
theorem lkX5_33 : Cond.methodLink RX5 33 yX4_size ∈ xT := xT_at 361 (by decide +kernel) rfl
theorem lkX5_48 : Cond.methodLink RX5 48 yX4_member ∈ xT := xT_at 366 (by decide +kernel) rfl
theorem lkX5_52 : Cond.methodLink RX5 52 yX8_sortOf ∈ xT := xT_at 370 (by decide +kernel) rfl
theorem lkX5_57 : Cond.methodLink RX5 57 yX8_load ∈ xT := xT_at 371 (by decide +kernel) rfl
theorem lkX5_61 : Cond.methodLink RX5 61 yX5_buildShift ∈ xT := xT_at 380 (by decide +kernel) rfl
theorem lkX5_65 : Cond.methodLink RX5 65 yX5_buildTurn ∈ xT := xT_at 396 (by decide +kernel) rfl
theorem lkX5_69 : Cond.methodLink RX5 69 yX5_buildGlide ∈ xT := xT_at 401 (by decide +kernel) rfl
theorem lkX5_72 : Cond.methodLink RX5 72 yX5_buildStretch ∈ xT := xT_at 406 (by decide +kernel) rfl
theorem lkX5_75 : Cond.methodLink RX5 75 yX5_buildLikeness ∈ xT := xT_at 410 (by decide +kernel) rfl
theorem lkX5_78 : Cond.methodLink RX5 78 yX5_buildAffine ∈ xT := xT_at 414 (by decide +kernel) rfl
theorem lkX5_81 : Cond.methodLink RX5 81 yX5_buildProjective ∈ xT := xT_at 428 (by decide +kernel) rfl
theorem lkX5_84 : Cond.methodLink RX5 84 yX5_buildAny ∈ xT := xT_at 438 (by decide +kernel) rfl
theorem lkX5_87 : Cond.methodLink RX5 87 yX5_areNear ∈ xT := xT_at 384 (by decide +kernel) rfl
theorem lkX5_91 : Cond.methodLink RX5 91 yX5_putLikeness ∈ xT := xT_at 392 (by decide +kernel) rfl
theorem lkX5_97 : Cond.methodLink RX5 97 yX5_areAll ∈ xT := xT_at 388 (by decide +kernel) rfl
theorem lkX5_103 : Cond.methodLink RX5 103 yX9_putRow ∈ xT := xT_at 395 (by decide +kernel) rfl
theorem lkX5_109 : Cond.methodLink RX5 109 yX5_findSides ∈ xT := xT_at 418 (by decide +kernel) rfl
theorem lkX5_113 : Cond.methodLink RX5 113 yX5_putWeighted ∈ xT := xT_at 424 (by decide +kernel) rfl
theorem lkX5_116 : Cond.methodLink RX5 116 yX7_dot ∈ xT := xT_at 423 (by decide +kernel) rfl
theorem lkX5_122 : Cond.methodLink RX5 122 yX5_findWeights ∈ xT := xT_at 432 (by decide +kernel) rfl
theorem lkX5_126 : Cond.methodLink RX5 126 yX9_determinant ∈ xT := xT_at 442 (by decide +kernel) rfl
theorem lkX5_130 : Cond.methodLink RX5 130 yX7_wedge ∈ xT := xT_at 422 (by decide +kernel) rfl
theorem lkX5_136 : Cond.methodLink RX5 136 yX3_reduce ∈ xT := xT_at 437 (by decide +kernel) rfl
theorem lkX6_31 : Cond.methodLink RX6 31 yX6_has ∈ xT := xT_at 555 (by decide +kernel) rfl
theorem lkX6_35 : Cond.methodLink RX6 35 yX9_adjugate ∈ xT := xT_at 531 (by decide +kernel) rfl
theorem lkX6_41 : Cond.methodLink RX6 41 yX9_trace ∈ xT := xT_at 532 (by decide +kernel) rfl
theorem lkX6_45 : Cond.methodLink RX6 45 yX9_determinant ∈ xT := xT_at 535 (by decide +kernel) rfl
theorem lkX6_48 : Cond.methodLink RX6 48 yX6_widestRow ∈ xT := xT_at 536 (by decide +kernel) rfl
theorem lkX6_65 : Cond.methodLink RX6 65 yX9_transpose ∈ xT := xT_at 563 (by decide +kernel) rfl
theorem lkX6_68 : Cond.methodLink RX6 68 yX6_takeRow ∈ xT := xT_at 564 (by decide +kernel) rfl
theorem lkX7_7 : Cond.methodLink RX7 7 yX7_wedgeCell ∈ xT := xT_at 303 (by decide +kernel) rfl
theorem lkX7_15 : Cond.methodLink RX7 15 yX9_putRow ∈ xT := xT_at 327 (by decide +kernel) rfl
theorem lkX7_21 : Cond.methodLink RX7 21 yX7_evenTable ∈ xT := xT_at 323 (by decide +kernel) rfl
theorem lkX7_25 : Cond.methodLink RX7 25 yX9_determinant ∈ xT := xT_at 328 (by decide +kernel) rfl
theorem lkX8_31 : Cond.methodLink RX8 31 yX8_has ∈ xT := xT_at 287 (by decide +kernel) rfl
theorem lkX8_35 : Cond.methodLink RX8 35 yX8_cell ∈ xT := xT_at 170 (by decide +kernel) rfl
theorem lkX8_38 : Cond.methodLink RX8 38 yX8_isAt ∈ xT := xT_at 166 (by decide +kernel) rfl
theorem lkX8_42 : Cond.methodLink RX8 42 yX8_find ∈ xT := xT_at 162 (by decide +kernel) rfl
theorem lkX9_7 : Cond.methodLink RX9 7 yX9_putRow ∈ xT := xT_at 474 (by decide +kernel) rfl
end
