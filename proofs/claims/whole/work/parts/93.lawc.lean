/-! the law, case by case -/
def lwC (l : Launch) (X : Nat → List (Option Value) → List Value → List xE → Prop) (xs : Nat → Int32) (L : Nat) : Prop := xR l RL cL_law room_1 (some .boolean) (fun r _ => r = some (.int 1)) 4 X ∧ (∀ (pc : Nat) (lv : List (Option Value)) (st : List Value) (G : List xE) (i : Int32) (j : Nat), decode cL_law pc = .ok (.iaload, 1) → i = nI j → j < L → X (pc + 1) lv (.int (xs j) :: st) G → X pc lv (.int i :: .ref 1000 :: st) G) ∧ (∀ (pc : Nat) (lv : List (Option Value)) (st : List Value) (G : List xE), decode cL_law pc = .ok (.arraylength, 1) → X (pc + 1) lv (.int (nI L) :: st) G → X pc lv (.ref 1000 :: st) G)
theorem CInv_facts {S : SS} {G : List xE} (h : CInv S G) : mapB S ∧ objB S.1 ∧ rowP S.1 S.2.2.1 ∧ G.length = 59 ∧ ∃ fs, xnth G 0 = some (.inr (6, fs)) := by
  obtain ⟨so, ce, mso, mce, rme, sme, _, _, _, _, _, _, _, _, _, _, _, _, _, _, _, _, _, _, _, _, _, eso, ece, _, _, _, _, _, _, _, _, _, _, _, _, rfl, hO, hO2, hM, hM4, hV, hW, hE, hE4, hE1⟩ := h
  exact ⟨fun k i hk hi => toO_bd hM hk hi, fun k i hk hi => bd3 hO hk i hi, ⟨hV.1, fun i hi => (hV.2 i hi).2⟩, rfl, _, rfl⟩
theorem RInv_facts {S : SS} {G : List xE} (h : RInv S G) : G.length = 11 ∧ ∃ fs, xnth G 0 = some (.inr (7, fs)) := by
  obtain ⟨_, _, _, _, _, _, _, _, _, _, _, _, _, rfl, -⟩ := h
  exact ⟨rfl, _, rfl⟩
def klw_point : List xI := [(140, .aload_n 1, 1), (141, .aload_n 0, 1), (142, .iload_n 3, 1), (143, .iconst 1, 1), (144, .iadd, 1), (145, .iaload, 1), (146, .aload_n 0, 1), (147, .iload_n 3, 1), (148, .iconst 2, 1), (149, .iadd, 1), (150, .iaload, 1), (151, .aload_n 0, 1), (152, .iload_n 3, 1), (153, .iconst 3, 1), (154, .iadd, 1), (155, .iaload, 1), (156, .invokevirtual 13, 3), (159, .aload_n 2, 1), (160, .aload_n 0, 1), (161, .iload_n 3, 1), (162, .iconst 1, 1), (163, .iadd, 1), (164, .iaload, 1), (165, .aload_n 0, 1), (166, .iload_n 3, 1), (167, .iconst 2, 1), (168, .iadd, 1), (169, .iaload, 1), (170, .aload_n 0, 1), (171, .iload_n 3, 1), (172, .iconst 3, 1), (173, .iadd, 1), (174, .iaload, 1), (175, .invokevirtual 17, 3), (178, .if_icmp .eq 745, 3), (181, .iconst 0, 1), (182, .ireturn, 1)]
theorem klw_point_ok : xsf cL_law klw_point := ⟨by decide +kernel, by decide +kernel⟩
set_option maxHeartbeats 4000000 in
set_option maxRecDepth 100000 in
theorem lw_point {l : Launch} {X : Nat → List (Option Value) → List Value → List xE → Prop} {xs : Nat → Int32} {L i : Nat} (hC : lwC l X xs L) (hi : i + 7 ≤ L) {S : SS} {G0 Gr : List xE} (hc : CInv S G0) (hr : RInv S Gr) (hI : InvS S) (next : ∀ S' G0' Gr', CInv S' G0' → RInv S' Gr' → InvS S' → X 923 [some (.ref 1000), some (.ref 0), some (.ref 59), some (.int (nI i))] [] (G0' ++ Gr'.map (xren (fun j => 59 + j)))) : X 140 [some (.ref 1000), some (.ref 0), some (.ref 59), some (.int (nI i))] [] (G0 ++ Gr.map (xren (fun j => 59 + j))) := by
  obtain ⟨hR, hS, -⟩ := hC
  have cf := CInv_facts hc
  obtain ⟨cl, fs, c0⟩ := cf.2.2.2
  obtain ⟨rl, fr, r0⟩ := RInv_facts hr
  refine hR.run (ft := []) (ct := []) (oc := []) klw_point_ok xnof xnok xnoc [145, 150, 155, 164, 169, 174, 923] [] [] 60 ?_
  refine hS 145 _ _ _ _ (i + 1) (klw_point_ok.at 145 rfl) (nI_add i 1) (by omega) ?_
  refine hR.run (ft := []) (ct := []) (oc := []) klw_point_ok xnof xnok xnoc [145, 150, 155, 164, 169, 174, 923] [] [] 60 ?_
  refine hS 150 _ _ _ _ (i + 2) (klw_point_ok.at 150 rfl) (nI_add i 2) (by omega) ?_
  refine hR.run (ft := []) (ct := []) (oc := []) klw_point_ok xnof xnok xnoc [145, 150, 155, 164, 169, 174, 923] [] [] 60 ?_
  refine hS 155 _ _ _ _ (i + 3) (klw_point_ok.at 155 rfl) (nI_add i 3) (by omega) ?_
  refine hR.run (ft := []) (ct := []) (oc := []) klw_point_ok xnof xnok xnoc [145, 150, 155, 164, 169, 174, 923] [] [] 60 ?_
  refine hR.callP (rest := []) (as := [.int (xs (i + 1)), .int (xs (i + 2)), .int (xs (i + 3))]) (k_point l S G0 hc  (xs (i + 1)) (xs (i + 2)) (xs (i + 3))) yX10_point_ok lkL_13 ivX10_point slX10_point ⟨rfl, rfl, by decide, by decide⟩ (klw_point_ok.at 156 rfl) rfl rfl (by decide) c0 rfl rfl (fun _ _ q => by rw [(CInv_facts q.2).2.2.2.1, cl]) (fun _ _ q v e => by rw [q.1] at e; cases e; rfl) (fun r9 G1 q => ?_)
  obtain ⟨rfl, hc1⟩ := q
  have cl1 := (CInv_facts hc1).2.2.2.1
  refine hR.run (ft := []) (ct := []) (oc := []) klw_point_ok xnof xnok xnoc [145, 150, 155, 164, 169, 174, 923] [] [] 60 ?_
  refine hS 164 _ _ _ _ (i + 1) (klw_point_ok.at 164 rfl) (nI_add i 1) (by omega) ?_
  refine hR.run (ft := []) (ct := []) (oc := []) klw_point_ok xnof xnok xnoc [145, 150, 155, 164, 169, 174, 923] [] [] 60 ?_
  refine hS 169 _ _ _ _ (i + 2) (klw_point_ok.at 169 rfl) (nI_add i 2) (by omega) ?_
  refine hR.run (ft := []) (ct := []) (oc := []) klw_point_ok xnof xnok xnoc [145, 150, 155, 164, 169, 174, 923] [] [] 60 ?_
  refine hS 174 _ _ _ _ (i + 3) (klw_point_ok.at 174 rfl) (nI_add i 3) (by omega) ?_
  refine hR.run (ft := []) (ct := []) (oc := []) klw_point_ok xnof xnok xnoc [145, 150, 155, 164, 169, 174, 923] [] [] 60 ?_
  refine hR.callQ (rest := [.int (zi (sp_point S (xs (i + 1)).toInt (xs (i + 2)).toInt (xs (i + 3)).toInt).1)]) (as := [.int (xs (i + 1)), .int (xs (i + 2)), .int (xs (i + 3))]) 59 cl1 (r_point l S Gr hr  (xs (i + 1)) (xs (i + 2)) (xs (i + 3))) yX11_point_ok lkL_17 ivX11_point slX11_point ⟨rfl, rfl, by decide, by decide⟩ (klw_point_ok.at 175 rfl) rfl rfl (xrs_ok rfl) r0 rfl rfl (fun _ _ q => by rw [(RInv_facts q.2).1, rl]) (fun _ _ q v e => by rw [q.1] at e; cases e; rfl) (fun r9 G2 q => ?_)
  obtain ⟨rfl, hr1⟩ := q
  refine hR.run (ft := []) (ct := []) (oc := []) klw_point_ok xnof xnok xnoc [145, 150, 155, 164, 169, 174, 923] [] [] 60 ?_
  exact ⟨fun _ => next _ _ _ hc1 hr1 (inv_point hI _ _ _), fun h => absurd rfl h⟩
def klw_line : List xI := [(183, .aload_n 1, 1), (184, .aload_n 0, 1), (185, .iload_n 3, 1), (186, .iconst 1, 1), (187, .iadd, 1), (188, .iaload, 1), (189, .aload_n 0, 1), (190, .iload_n 3, 1), (191, .iconst 2, 1), (192, .iadd, 1), (193, .iaload, 1), (194, .aload_n 0, 1), (195, .iload_n 3, 1), (196, .iconst 3, 1), (197, .iadd, 1), (198, .iaload, 1), (199, .invokevirtual 18, 3), (202, .aload_n 2, 1), (203, .aload_n 0, 1), (204, .iload_n 3, 1), (205, .iconst 1, 1), (206, .iadd, 1), (207, .iaload, 1), (208, .aload_n 0, 1), (209, .iload_n 3, 1), (210, .iconst 2, 1), (211, .iadd, 1), (212, .iaload, 1), (213, .aload_n 0, 1), (214, .iload_n 3, 1), (215, .iconst 3, 1), (216, .iadd, 1), (217, .iaload, 1), (218, .invokevirtual 21, 3), (221, .if_icmp .eq 702, 3), (224, .iconst 0, 1), (225, .ireturn, 1)]
theorem klw_line_ok : xsf cL_law klw_line := ⟨by decide +kernel, by decide +kernel⟩
set_option maxHeartbeats 4000000 in
set_option maxRecDepth 100000 in
theorem lw_line {l : Launch} {X : Nat → List (Option Value) → List Value → List xE → Prop} {xs : Nat → Int32} {L i : Nat} (hC : lwC l X xs L) (hi : i + 7 ≤ L) {S : SS} {G0 Gr : List xE} (hc : CInv S G0) (hr : RInv S Gr) (hI : InvS S) (next : ∀ S' G0' Gr', CInv S' G0' → RInv S' Gr' → InvS S' → X 923 [some (.ref 1000), some (.ref 0), some (.ref 59), some (.int (nI i))] [] (G0' ++ Gr'.map (xren (fun j => 59 + j)))) : X 183 [some (.ref 1000), some (.ref 0), some (.ref 59), some (.int (nI i))] [] (G0 ++ Gr.map (xren (fun j => 59 + j))) := by
  obtain ⟨hR, hS, -⟩ := hC
  have cf := CInv_facts hc
  obtain ⟨cl, fs, c0⟩ := cf.2.2.2
  obtain ⟨rl, fr, r0⟩ := RInv_facts hr
  refine hR.run (ft := []) (ct := []) (oc := []) klw_line_ok xnof xnok xnoc [188, 193, 198, 207, 212, 217, 923] [] [] 60 ?_
  refine hS 188 _ _ _ _ (i + 1) (klw_line_ok.at 188 rfl) (nI_add i 1) (by omega) ?_
  refine hR.run (ft := []) (ct := []) (oc := []) klw_line_ok xnof xnok xnoc [188, 193, 198, 207, 212, 217, 923] [] [] 60 ?_
  refine hS 193 _ _ _ _ (i + 2) (klw_line_ok.at 193 rfl) (nI_add i 2) (by omega) ?_
  refine hR.run (ft := []) (ct := []) (oc := []) klw_line_ok xnof xnok xnoc [188, 193, 198, 207, 212, 217, 923] [] [] 60 ?_
  refine hS 198 _ _ _ _ (i + 3) (klw_line_ok.at 198 rfl) (nI_add i 3) (by omega) ?_
  refine hR.run (ft := []) (ct := []) (oc := []) klw_line_ok xnof xnok xnoc [188, 193, 198, 207, 212, 217, 923] [] [] 60 ?_
  refine hR.callP (rest := []) (as := [.int (xs (i + 1)), .int (xs (i + 2)), .int (xs (i + 3))]) (k_line l S G0 hc  (xs (i + 1)) (xs (i + 2)) (xs (i + 3))) yX10_line_ok lkL_18 ivX10_line slX10_line ⟨rfl, rfl, by decide, by decide⟩ (klw_line_ok.at 199 rfl) rfl rfl (by decide) c0 rfl rfl (fun _ _ q => by rw [(CInv_facts q.2).2.2.2.1, cl]) (fun _ _ q v e => by rw [q.1] at e; cases e; rfl) (fun r9 G1 q => ?_)
  obtain ⟨rfl, hc1⟩ := q
  have cl1 := (CInv_facts hc1).2.2.2.1
  refine hR.run (ft := []) (ct := []) (oc := []) klw_line_ok xnof xnok xnoc [188, 193, 198, 207, 212, 217, 923] [] [] 60 ?_
  refine hS 207 _ _ _ _ (i + 1) (klw_line_ok.at 207 rfl) (nI_add i 1) (by omega) ?_
  refine hR.run (ft := []) (ct := []) (oc := []) klw_line_ok xnof xnok xnoc [188, 193, 198, 207, 212, 217, 923] [] [] 60 ?_
  refine hS 212 _ _ _ _ (i + 2) (klw_line_ok.at 212 rfl) (nI_add i 2) (by omega) ?_
  refine hR.run (ft := []) (ct := []) (oc := []) klw_line_ok xnof xnok xnoc [188, 193, 198, 207, 212, 217, 923] [] [] 60 ?_
  refine hS 217 _ _ _ _ (i + 3) (klw_line_ok.at 217 rfl) (nI_add i 3) (by omega) ?_
  refine hR.run (ft := []) (ct := []) (oc := []) klw_line_ok xnof xnok xnoc [188, 193, 198, 207, 212, 217, 923] [] [] 60 ?_
  refine hR.callQ (rest := [.int (zi (sp_line S (xs (i + 1)).toInt (xs (i + 2)).toInt (xs (i + 3)).toInt).1)]) (as := [.int (xs (i + 1)), .int (xs (i + 2)), .int (xs (i + 3))]) 59 cl1 (r_line l S Gr hr  (xs (i + 1)) (xs (i + 2)) (xs (i + 3))) yX11_line_ok lkL_21 ivX11_line slX11_line ⟨rfl, rfl, by decide, by decide⟩ (klw_line_ok.at 218 rfl) rfl rfl (xrs_ok rfl) r0 rfl rfl (fun _ _ q => by rw [(RInv_facts q.2).1, rl]) (fun _ _ q v e => by rw [q.1] at e; cases e; rfl) (fun r9 G2 q => ?_)
  obtain ⟨rfl, hr1⟩ := q
  refine hR.run (ft := []) (ct := []) (oc := []) klw_line_ok xnof xnok xnoc [188, 193, 198, 207, 212, 217, 923] [] [] 60 ?_
  exact ⟨fun _ => next _ _ _ hc1 hr1 (inv_line hI _ _ _), fun h => absurd rfl h⟩
def klw_conic : List xI := [(226, .aload_n 1, 1), (227, .aload_n 0, 1), (228, .iload_n 3, 1), (229, .iconst 1, 1), (230, .iadd, 1), (231, .iaload, 1), (232, .aload_n 0, 1), (233, .iload_n 3, 1), (234, .iconst 2, 1), (235, .iadd, 1), (236, .iaload, 1), (237, .aload_n 0, 1), (238, .iload_n 3, 1), (239, .iconst 3, 1), (240, .iadd, 1), (241, .iaload, 1), (242, .aload_n 0, 1), (243, .iload_n 3, 1), (244, .iconst 4, 1), (245, .iadd, 1), (246, .iaload, 1), (247, .aload_n 0, 1), (248, .iload_n 3, 1), (249, .iconst 5, 1), (250, .iadd, 1), (251, .iaload, 1), (252, .aload_n 0, 1), (253, .iload_n 3, 1), (254, .bipush 6, 2), (256, .iadd, 1), (257, .iaload, 1), (258, .invokevirtual 22, 3), (261, .aload_n 2, 1), (262, .aload_n 0, 1), (263, .iload_n 3, 1), (264, .iconst 1, 1), (265, .iadd, 1), (266, .iaload, 1), (267, .aload_n 0, 1), (268, .iload_n 3, 1), (269, .iconst 2, 1), (270, .iadd, 1), (271, .iaload, 1), (272, .aload_n 0, 1), (273, .iload_n 3, 1), (274, .iconst 3, 1), (275, .iadd, 1), (276, .iaload, 1), (277, .aload_n 0, 1), (278, .iload_n 3, 1), (279, .iconst 4, 1), (280, .iadd, 1), (281, .iaload, 1), (282, .aload_n 0, 1), (283, .iload_n 3, 1), (284, .iconst 5, 1), (285, .iadd, 1), (286, .iaload, 1), (287, .aload_n 0, 1), (288, .iload_n 3, 1), (289, .bipush 6, 2), (291, .iadd, 1), (292, .iaload, 1), (293, .invokevirtual 26, 3), (296, .if_icmp .eq 627, 3), (299, .iconst 0, 1), (300, .ireturn, 1)]
theorem klw_conic_ok : xsf cL_law klw_conic := ⟨by decide +kernel, by decide +kernel⟩
set_option maxHeartbeats 4000000 in
set_option maxRecDepth 100000 in
theorem lw_conic {l : Launch} {X : Nat → List (Option Value) → List Value → List xE → Prop} {xs : Nat → Int32} {L i : Nat} (hC : lwC l X xs L) (hi : i + 7 ≤ L) {S : SS} {G0 Gr : List xE} (hc : CInv S G0) (hr : RInv S Gr) (hI : InvS S) (next : ∀ S' G0' Gr', CInv S' G0' → RInv S' Gr' → InvS S' → X 923 [some (.ref 1000), some (.ref 0), some (.ref 59), some (.int (nI i))] [] (G0' ++ Gr'.map (xren (fun j => 59 + j)))) : X 226 [some (.ref 1000), some (.ref 0), some (.ref 59), some (.int (nI i))] [] (G0 ++ Gr.map (xren (fun j => 59 + j))) := by
  obtain ⟨hR, hS, -⟩ := hC
  have cf := CInv_facts hc
  obtain ⟨cl, fs, c0⟩ := cf.2.2.2
  obtain ⟨rl, fr, r0⟩ := RInv_facts hr
  refine hR.run (ft := []) (ct := []) (oc := []) klw_conic_ok xnof xnok xnoc [231, 236, 241, 246, 251, 257, 266, 271, 276, 281, 286, 292, 923] [] [] 60 ?_
  refine hS 231 _ _ _ _ (i + 1) (klw_conic_ok.at 231 rfl) (nI_add i 1) (by omega) ?_
  refine hR.run (ft := []) (ct := []) (oc := []) klw_conic_ok xnof xnok xnoc [231, 236, 241, 246, 251, 257, 266, 271, 276, 281, 286, 292, 923] [] [] 60 ?_
  refine hS 236 _ _ _ _ (i + 2) (klw_conic_ok.at 236 rfl) (nI_add i 2) (by omega) ?_
  refine hR.run (ft := []) (ct := []) (oc := []) klw_conic_ok xnof xnok xnoc [231, 236, 241, 246, 251, 257, 266, 271, 276, 281, 286, 292, 923] [] [] 60 ?_
  refine hS 241 _ _ _ _ (i + 3) (klw_conic_ok.at 241 rfl) (nI_add i 3) (by omega) ?_
  refine hR.run (ft := []) (ct := []) (oc := []) klw_conic_ok xnof xnok xnoc [231, 236, 241, 246, 251, 257, 266, 271, 276, 281, 286, 292, 923] [] [] 60 ?_
  refine hS 246 _ _ _ _ (i + 4) (klw_conic_ok.at 246 rfl) (nI_add i 4) (by omega) ?_
  refine hR.run (ft := []) (ct := []) (oc := []) klw_conic_ok xnof xnok xnoc [231, 236, 241, 246, 251, 257, 266, 271, 276, 281, 286, 292, 923] [] [] 60 ?_
  refine hS 251 _ _ _ _ (i + 5) (klw_conic_ok.at 251 rfl) (nI_add i 5) (by omega) ?_
  refine hR.run (ft := []) (ct := []) (oc := []) klw_conic_ok xnof xnok xnoc [231, 236, 241, 246, 251, 257, 266, 271, 276, 281, 286, 292, 923] [] [] 60 ?_
  refine hS 257 _ _ _ _ (i + 6) (klw_conic_ok.at 257 rfl) (nI_add i 6) (by omega) ?_
  refine hR.run (ft := []) (ct := []) (oc := []) klw_conic_ok xnof xnok xnoc [231, 236, 241, 246, 251, 257, 266, 271, 276, 281, 286, 292, 923] [] [] 60 ?_
  refine hR.callP (rest := []) (as := [.int (xs (i + 1)), .int (xs (i + 2)), .int (xs (i + 3)), .int (xs (i + 4)), .int (xs (i + 5)), .int (xs (i + 6))]) (k_conic l S G0 hc  (xs (i + 1)) (xs (i + 2)) (xs (i + 3)) (xs (i + 4)) (xs (i + 5)) (xs (i + 6))) yX10_conic_ok lkL_22 ivX10_conic slX10_conic ⟨rfl, rfl, by decide, by decide⟩ (klw_conic_ok.at 258 rfl) rfl rfl (by decide) c0 rfl rfl (fun _ _ q => by rw [(CInv_facts q.2).2.2.2.1, cl]) (fun _ _ q v e => by rw [q.1] at e; cases e; rfl) (fun r9 G1 q => ?_)
  obtain ⟨rfl, hc1⟩ := q
  have cl1 := (CInv_facts hc1).2.2.2.1
  refine hR.run (ft := []) (ct := []) (oc := []) klw_conic_ok xnof xnok xnoc [231, 236, 241, 246, 251, 257, 266, 271, 276, 281, 286, 292, 923] [] [] 60 ?_
  refine hS 266 _ _ _ _ (i + 1) (klw_conic_ok.at 266 rfl) (nI_add i 1) (by omega) ?_
  refine hR.run (ft := []) (ct := []) (oc := []) klw_conic_ok xnof xnok xnoc [231, 236, 241, 246, 251, 257, 266, 271, 276, 281, 286, 292, 923] [] [] 60 ?_
  refine hS 271 _ _ _ _ (i + 2) (klw_conic_ok.at 271 rfl) (nI_add i 2) (by omega) ?_
  refine hR.run (ft := []) (ct := []) (oc := []) klw_conic_ok xnof xnok xnoc [231, 236, 241, 246, 251, 257, 266, 271, 276, 281, 286, 292, 923] [] [] 60 ?_
  refine hS 276 _ _ _ _ (i + 3) (klw_conic_ok.at 276 rfl) (nI_add i 3) (by omega) ?_
  refine hR.run (ft := []) (ct := []) (oc := []) klw_conic_ok xnof xnok xnoc [231, 236, 241, 246, 251, 257, 266, 271, 276, 281, 286, 292, 923] [] [] 60 ?_
  refine hS 281 _ _ _ _ (i + 4) (klw_conic_ok.at 281 rfl) (nI_add i 4) (by omega) ?_
  refine hR.run (ft := []) (ct := []) (oc := []) klw_conic_ok xnof xnok xnoc [231, 236, 241, 246, 251, 257, 266, 271, 276, 281, 286, 292, 923] [] [] 60 ?_
  refine hS 286 _ _ _ _ (i + 5) (klw_conic_ok.at 286 rfl) (nI_add i 5) (by omega) ?_
  refine hR.run (ft := []) (ct := []) (oc := []) klw_conic_ok xnof xnok xnoc [231, 236, 241, 246, 251, 257, 266, 271, 276, 281, 286, 292, 923] [] [] 60 ?_
  refine hS 292 _ _ _ _ (i + 6) (klw_conic_ok.at 292 rfl) (nI_add i 6) (by omega) ?_
  refine hR.run (ft := []) (ct := []) (oc := []) klw_conic_ok xnof xnok xnoc [231, 236, 241, 246, 251, 257, 266, 271, 276, 281, 286, 292, 923] [] [] 60 ?_
  refine hR.callQ (rest := [.int (zi (sp_conic S (xs (i + 1)).toInt (xs (i + 2)).toInt (xs (i + 3)).toInt (xs (i + 4)).toInt (xs (i + 5)).toInt (xs (i + 6)).toInt).1)]) (as := [.int (xs (i + 1)), .int (xs (i + 2)), .int (xs (i + 3)), .int (xs (i + 4)), .int (xs (i + 5)), .int (xs (i + 6))]) 59 cl1 (r_conic l S Gr hr  (xs (i + 1)) (xs (i + 2)) (xs (i + 3)) (xs (i + 4)) (xs (i + 5)) (xs (i + 6))) yX11_conic_ok lkL_26 ivX11_conic slX11_conic ⟨rfl, rfl, by decide, by decide⟩ (klw_conic_ok.at 293 rfl) rfl rfl (xrs_ok rfl) r0 rfl rfl (fun _ _ q => by rw [(RInv_facts q.2).1, rl]) (fun _ _ q v e => by rw [q.1] at e; cases e; rfl) (fun r9 G2 q => ?_)
  obtain ⟨rfl, hr1⟩ := q
  refine hR.run (ft := []) (ct := []) (oc := []) klw_conic_ok xnof xnok xnoc [231, 236, 241, 246, 251, 257, 266, 271, 276, 281, 286, 292, 923] [] [] 60 ?_
  exact ⟨fun _ => next _ _ _ hc1 hr1 (inv_conic hI _ _ _ _ _ _), fun h => absurd rfl h⟩
def klw_number : List xI := [(301, .aload_n 1, 1), (302, .aload_n 0, 1), (303, .iload_n 3, 1), (304, .iconst 1, 1), (305, .iadd, 1), (306, .iaload, 1), (307, .aload_n 0, 1), (308, .iload_n 3, 1), (309, .iconst 2, 1), (310, .iadd, 1), (311, .iaload, 1), (312, .invokevirtual 27, 3), (315, .aload_n 2, 1), (316, .aload_n 0, 1), (317, .iload_n 3, 1), (318, .iconst 1, 1), (319, .iadd, 1), (320, .iaload, 1), (321, .aload_n 0, 1), (322, .iload_n 3, 1), (323, .iconst 2, 1), (324, .iadd, 1), (325, .iaload, 1), (326, .invokevirtual 31, 3), (329, .if_icmp .eq 594, 3), (332, .iconst 0, 1), (333, .ireturn, 1)]
theorem klw_number_ok : xsf cL_law klw_number := ⟨by decide +kernel, by decide +kernel⟩
set_option maxHeartbeats 4000000 in
set_option maxRecDepth 100000 in
theorem lw_number {l : Launch} {X : Nat → List (Option Value) → List Value → List xE → Prop} {xs : Nat → Int32} {L i : Nat} (hC : lwC l X xs L) (hi : i + 7 ≤ L) {S : SS} {G0 Gr : List xE} (hc : CInv S G0) (hr : RInv S Gr) (hI : InvS S) (next : ∀ S' G0' Gr', CInv S' G0' → RInv S' Gr' → InvS S' → X 923 [some (.ref 1000), some (.ref 0), some (.ref 59), some (.int (nI i))] [] (G0' ++ Gr'.map (xren (fun j => 59 + j)))) : X 301 [some (.ref 1000), some (.ref 0), some (.ref 59), some (.int (nI i))] [] (G0 ++ Gr.map (xren (fun j => 59 + j))) := by
  obtain ⟨hR, hS, -⟩ := hC
  have cf := CInv_facts hc
  obtain ⟨cl, fs, c0⟩ := cf.2.2.2
  obtain ⟨rl, fr, r0⟩ := RInv_facts hr
  refine hR.run (ft := []) (ct := []) (oc := []) klw_number_ok xnof xnok xnoc [306, 311, 320, 325, 923] [] [] 60 ?_
  refine hS 306 _ _ _ _ (i + 1) (klw_number_ok.at 306 rfl) (nI_add i 1) (by omega) ?_
  refine hR.run (ft := []) (ct := []) (oc := []) klw_number_ok xnof xnok xnoc [306, 311, 320, 325, 923] [] [] 60 ?_
  refine hS 311 _ _ _ _ (i + 2) (klw_number_ok.at 311 rfl) (nI_add i 2) (by omega) ?_
  refine hR.run (ft := []) (ct := []) (oc := []) klw_number_ok xnof xnok xnoc [306, 311, 320, 325, 923] [] [] 60 ?_
  refine hR.callP (rest := []) (as := [.int (xs (i + 1)), .int (xs (i + 2))]) (k_number l S G0 hc  (xs (i + 1)) (xs (i + 2))) yX10_number_ok lkL_27 ivX10_number slX10_number ⟨rfl, rfl, by decide, by decide⟩ (klw_number_ok.at 312 rfl) rfl rfl (by decide) c0 rfl rfl (fun _ _ q => by rw [(CInv_facts q.2).2.2.2.1, cl]) (fun _ _ q v e => by rw [q.1] at e; cases e; rfl) (fun r9 G1 q => ?_)
  obtain ⟨rfl, hc1⟩ := q
  have cl1 := (CInv_facts hc1).2.2.2.1
  refine hR.run (ft := []) (ct := []) (oc := []) klw_number_ok xnof xnok xnoc [306, 311, 320, 325, 923] [] [] 60 ?_
  refine hS 320 _ _ _ _ (i + 1) (klw_number_ok.at 320 rfl) (nI_add i 1) (by omega) ?_
  refine hR.run (ft := []) (ct := []) (oc := []) klw_number_ok xnof xnok xnoc [306, 311, 320, 325, 923] [] [] 60 ?_
  refine hS 325 _ _ _ _ (i + 2) (klw_number_ok.at 325 rfl) (nI_add i 2) (by omega) ?_
  refine hR.run (ft := []) (ct := []) (oc := []) klw_number_ok xnof xnok xnoc [306, 311, 320, 325, 923] [] [] 60 ?_
  refine hR.callQ (rest := [.int (zi (sp_number S (xs (i + 1)).toInt (xs (i + 2)).toInt))]) (as := [.int (xs (i + 1)), .int (xs (i + 2))]) 59 cl1 (r_number l S Gr hr  (xs (i + 1)) (xs (i + 2))) yX11_number_ok lkL_31 ivX11_number slX11_number ⟨rfl, rfl, by decide, by decide⟩ (klw_number_ok.at 326 rfl) rfl rfl (xrs_ok rfl) r0 rfl rfl (fun _ _ q => by rw [(RInv_facts q.2).1, rl]) (fun _ _ q v e => by rw [q.1] at e; cases e; rfl) (fun r9 G2 q => ?_)
  obtain ⟨rfl, hr1⟩ := q
  refine hR.run (ft := []) (ct := []) (oc := []) klw_number_ok xnof xnok xnoc [306, 311, 320, 325, 923] [] [] 60 ?_
  exact ⟨fun _ => next _ _ _ hc1 hr1 hI, fun h => absurd rfl h⟩
def klw_join : List xI := [(334, .aload_n 1, 1), (335, .aload_n 0, 1), (336, .iload_n 3, 1), (337, .iconst 1, 1), (338, .iadd, 1), (339, .iaload, 1), (340, .aload_n 0, 1), (341, .iload_n 3, 1), (342, .iconst 2, 1), (343, .iadd, 1), (344, .iaload, 1), (345, .invokevirtual 32, 3), (348, .aload_n 2, 1), (349, .aload_n 0, 1), (350, .iload_n 3, 1), (351, .iconst 1, 1), (352, .iadd, 1), (353, .iaload, 1), (354, .aload_n 0, 1), (355, .iload_n 3, 1), (356, .iconst 2, 1), (357, .iadd, 1), (358, .iaload, 1), (359, .invokevirtual 35, 3), (362, .if_icmp .eq 561, 3), (365, .iconst 0, 1), (366, .ireturn, 1)]
theorem klw_join_ok : xsf cL_law klw_join := ⟨by decide +kernel, by decide +kernel⟩
set_option maxHeartbeats 4000000 in
set_option maxRecDepth 100000 in
theorem lw_join {l : Launch} {X : Nat → List (Option Value) → List Value → List xE → Prop} {xs : Nat → Int32} {L i : Nat} (hC : lwC l X xs L) (hi : i + 7 ≤ L) {S : SS} {G0 Gr : List xE} (hc : CInv S G0) (hr : RInv S Gr) (hI : InvS S) (next : ∀ S' G0' Gr', CInv S' G0' → RInv S' Gr' → InvS S' → X 923 [some (.ref 1000), some (.ref 0), some (.ref 59), some (.int (nI i))] [] (G0' ++ Gr'.map (xren (fun j => 59 + j)))) : X 334 [some (.ref 1000), some (.ref 0), some (.ref 59), some (.int (nI i))] [] (G0 ++ Gr.map (xren (fun j => 59 + j))) := by
  obtain ⟨hR, hS, -⟩ := hC
  have cf := CInv_facts hc
  obtain ⟨cl, fs, c0⟩ := cf.2.2.2
  obtain ⟨rl, fr, r0⟩ := RInv_facts hr
  refine hR.run (ft := []) (ct := []) (oc := []) klw_join_ok xnof xnok xnoc [339, 344, 353, 358, 923] [] [] 60 ?_
  refine hS 339 _ _ _ _ (i + 1) (klw_join_ok.at 339 rfl) (nI_add i 1) (by omega) ?_
  refine hR.run (ft := []) (ct := []) (oc := []) klw_join_ok xnof xnok xnoc [339, 344, 353, 358, 923] [] [] 60 ?_
  refine hS 344 _ _ _ _ (i + 2) (klw_join_ok.at 344 rfl) (nI_add i 2) (by omega) ?_
  refine hR.run (ft := []) (ct := []) (oc := []) klw_join_ok xnof xnok xnoc [339, 344, 353, 358, 923] [] [] 60 ?_
  refine hR.callP (rest := []) (as := [.int (xs (i + 1)), .int (xs (i + 2))]) (k_join l S G0 hc (inv_apart hI.1) (xs (i + 1)) (xs (i + 2))) yX10_join_ok lkL_32 ivX10_join slX10_join ⟨rfl, rfl, by decide, by decide⟩ (klw_join_ok.at 345 rfl) rfl rfl (by decide) c0 rfl rfl (fun _ _ q => by rw [(CInv_facts q.2).2.2.2.1, cl]) (fun _ _ q v e => by rw [q.1] at e; cases e; rfl) (fun r9 G1 q => ?_)
  obtain ⟨rfl, hc1⟩ := q
  have cl1 := (CInv_facts hc1).2.2.2.1
  refine hR.run (ft := []) (ct := []) (oc := []) klw_join_ok xnof xnok xnoc [339, 344, 353, 358, 923] [] [] 60 ?_
  refine hS 353 _ _ _ _ (i + 1) (klw_join_ok.at 353 rfl) (nI_add i 1) (by omega) ?_
  refine hR.run (ft := []) (ct := []) (oc := []) klw_join_ok xnof xnok xnoc [339, 344, 353, 358, 923] [] [] 60 ?_
  refine hS 358 _ _ _ _ (i + 2) (klw_join_ok.at 358 rfl) (nI_add i 2) (by omega) ?_
  refine hR.run (ft := []) (ct := []) (oc := []) klw_join_ok xnof xnok xnoc [339, 344, 353, 358, 923] [] [] 60 ?_
  refine hR.callQ (rest := [.int (zi (sp_join S (xs (i + 1)).toInt (xs (i + 2)).toInt).1)]) (as := [.int (xs (i + 1)), .int (xs (i + 2))]) 59 cl1 (r_join l S Gr hr (inv_apart hI.1) (xs (i + 1)) (xs (i + 2))) yX11_join_ok lkL_35 ivX11_join slX11_join ⟨rfl, rfl, by decide, by decide⟩ (klw_join_ok.at 359 rfl) rfl rfl (xrs_ok rfl) r0 rfl rfl (fun _ _ q => by rw [(RInv_facts q.2).1, rl]) (fun _ _ q v e => by rw [q.1] at e; cases e; rfl) (fun r9 G2 q => ?_)
  obtain ⟨rfl, hr1⟩ := q
  refine hR.run (ft := []) (ct := []) (oc := []) klw_join_ok xnof xnok xnoc [339, 344, 353, 358, 923] [] [] 60 ?_
  exact ⟨fun _ => next _ _ _ hc1 hr1 (inv_join hI _ _), fun h => absurd rfl h⟩
def klw_on : List xI := [(367, .aload_n 1, 1), (368, .aload_n 0, 1), (369, .iload_n 3, 1), (370, .iconst 1, 1), (371, .iadd, 1), (372, .iaload, 1), (373, .aload_n 0, 1), (374, .iload_n 3, 1), (375, .iconst 2, 1), (376, .iadd, 1), (377, .iaload, 1), (378, .invokevirtual 36, 3), (381, .aload_n 2, 1), (382, .aload_n 0, 1), (383, .iload_n 3, 1), (384, .iconst 1, 1), (385, .iadd, 1), (386, .iaload, 1), (387, .aload_n 0, 1), (388, .iload_n 3, 1), (389, .iconst 2, 1), (390, .iadd, 1), (391, .iaload, 1), (392, .invokevirtual 39, 3), (395, .if_icmp .eq 528, 3), (398, .iconst 0, 1), (399, .ireturn, 1)]
theorem klw_on_ok : xsf cL_law klw_on := ⟨by decide +kernel, by decide +kernel⟩
set_option maxHeartbeats 4000000 in
set_option maxRecDepth 100000 in
theorem lw_on {l : Launch} {X : Nat → List (Option Value) → List Value → List xE → Prop} {xs : Nat → Int32} {L i : Nat} (hC : lwC l X xs L) (hi : i + 7 ≤ L) {S : SS} {G0 Gr : List xE} (hc : CInv S G0) (hr : RInv S Gr) (hI : InvS S) (next : ∀ S' G0' Gr', CInv S' G0' → RInv S' Gr' → InvS S' → X 923 [some (.ref 1000), some (.ref 0), some (.ref 59), some (.int (nI i))] [] (G0' ++ Gr'.map (xren (fun j => 59 + j)))) : X 367 [some (.ref 1000), some (.ref 0), some (.ref 59), some (.int (nI i))] [] (G0 ++ Gr.map (xren (fun j => 59 + j))) := by
  obtain ⟨hR, hS, -⟩ := hC
  have cf := CInv_facts hc
  obtain ⟨cl, fs, c0⟩ := cf.2.2.2
  obtain ⟨rl, fr, r0⟩ := RInv_facts hr
  refine hR.run (ft := []) (ct := []) (oc := []) klw_on_ok xnof xnok xnoc [372, 377, 386, 391, 923] [] [] 60 ?_
  refine hS 372 _ _ _ _ (i + 1) (klw_on_ok.at 372 rfl) (nI_add i 1) (by omega) ?_
  refine hR.run (ft := []) (ct := []) (oc := []) klw_on_ok xnof xnok xnoc [372, 377, 386, 391, 923] [] [] 60 ?_
  refine hS 377 _ _ _ _ (i + 2) (klw_on_ok.at 377 rfl) (nI_add i 2) (by omega) ?_
  refine hR.run (ft := []) (ct := []) (oc := []) klw_on_ok xnof xnok xnoc [372, 377, 386, 391, 923] [] [] 60 ?_
  refine hR.callP (rest := []) (as := [.int (xs (i + 1)), .int (xs (i + 2))]) (k_on l S G0 hc  (xs (i + 1)) (xs (i + 2))) yX10_on_ok lkL_36 ivX10_on slX10_on ⟨rfl, rfl, by decide, by decide⟩ (klw_on_ok.at 378 rfl) rfl rfl (by decide) c0 rfl rfl (fun _ _ q => by rw [(CInv_facts q.2).2.2.2.1, cl]) (fun _ _ q v e => by rw [q.1] at e; cases e; rfl) (fun r9 G1 q => ?_)
  obtain ⟨rfl, hc1⟩ := q
  have cl1 := (CInv_facts hc1).2.2.2.1
  refine hR.run (ft := []) (ct := []) (oc := []) klw_on_ok xnof xnok xnoc [372, 377, 386, 391, 923] [] [] 60 ?_
  refine hS 386 _ _ _ _ (i + 1) (klw_on_ok.at 386 rfl) (nI_add i 1) (by omega) ?_
  refine hR.run (ft := []) (ct := []) (oc := []) klw_on_ok xnof xnok xnoc [372, 377, 386, 391, 923] [] [] 60 ?_
  refine hS 391 _ _ _ _ (i + 2) (klw_on_ok.at 391 rfl) (nI_add i 2) (by omega) ?_
  refine hR.run (ft := []) (ct := []) (oc := []) klw_on_ok xnof xnok xnoc [372, 377, 386, 391, 923] [] [] 60 ?_
  refine hR.callQ (rest := [.int (zi (sp_on S (xs (i + 1)).toInt (xs (i + 2)).toInt))]) (as := [.int (xs (i + 1)), .int (xs (i + 2))]) 59 cl1 (r_on l S Gr hr  (xs (i + 1)) (xs (i + 2))) yX11_on_ok lkL_39 ivX11_on slX11_on ⟨rfl, rfl, by decide, by decide⟩ (klw_on_ok.at 392 rfl) rfl rfl (xrs_ok rfl) r0 rfl rfl (fun _ _ q => by rw [(RInv_facts q.2).1, rl]) (fun _ _ q v e => by rw [q.1] at e; cases e; rfl) (fun r9 G2 q => ?_)
  obtain ⟨rfl, hr1⟩ := q
  refine hR.run (ft := []) (ct := []) (oc := []) klw_on_ok xnof xnok xnoc [372, 377, 386, 391, 923] [] [] 60 ?_
  exact ⟨fun _ => next _ _ _ hc1 hr1 hI, fun h => absurd rfl h⟩
def klw_shape : List xI := [(400, .aload_n 1, 1), (401, .aload_n 0, 1), (402, .iload_n 3, 1), (403, .iconst 1, 1), (404, .iadd, 1), (405, .iaload, 1), (406, .invokevirtual 40, 3), (409, .aload_n 2, 1), (410, .aload_n 0, 1), (411, .iload_n 3, 1), (412, .iconst 1, 1), (413, .iadd, 1), (414, .iaload, 1), (415, .invokevirtual 44, 3), (418, .if_icmp .eq 505, 3), (421, .iconst 0, 1), (422, .ireturn, 1)]
theorem klw_shape_ok : xsf cL_law klw_shape := ⟨by decide +kernel, by decide +kernel⟩
set_option maxHeartbeats 4000000 in
set_option maxRecDepth 100000 in
theorem lw_shape {l : Launch} {X : Nat → List (Option Value) → List Value → List xE → Prop} {xs : Nat → Int32} {L i : Nat} (hC : lwC l X xs L) (hi : i + 7 ≤ L) {S : SS} {G0 Gr : List xE} (hc : CInv S G0) (hr : RInv S Gr) (hI : InvS S) (next : ∀ S' G0' Gr', CInv S' G0' → RInv S' Gr' → InvS S' → X 923 [some (.ref 1000), some (.ref 0), some (.ref 59), some (.int (nI i))] [] (G0' ++ Gr'.map (xren (fun j => 59 + j)))) : X 400 [some (.ref 1000), some (.ref 0), some (.ref 59), some (.int (nI i))] [] (G0 ++ Gr.map (xren (fun j => 59 + j))) := by
  obtain ⟨hR, hS, -⟩ := hC
  have cf := CInv_facts hc
  obtain ⟨cl, fs, c0⟩ := cf.2.2.2
  obtain ⟨rl, fr, r0⟩ := RInv_facts hr
  refine hR.run (ft := []) (ct := []) (oc := []) klw_shape_ok xnof xnok xnoc [405, 414, 923] [] [] 60 ?_
  refine hS 405 _ _ _ _ (i + 1) (klw_shape_ok.at 405 rfl) (nI_add i 1) (by omega) ?_
  refine hR.run (ft := []) (ct := []) (oc := []) klw_shape_ok xnof xnok xnoc [405, 414, 923] [] [] 60 ?_
  refine hR.callP (rest := []) (as := [.int (xs (i + 1))]) (k_shape l S G0 hc  (xs (i + 1))) yX10_shape_ok lkL_40 ivX10_shape slX10_shape ⟨rfl, rfl, by decide, by decide⟩ (klw_shape_ok.at 406 rfl) rfl rfl (by decide) c0 rfl rfl (fun _ _ q => by rw [(CInv_facts q.2).2.2.2.1, cl]) (fun _ _ q v e => by rw [q.1] at e; cases e; rfl) (fun r9 G1 q => ?_)
  obtain ⟨rfl, hc1⟩ := q
  have cl1 := (CInv_facts hc1).2.2.2.1
  refine hR.run (ft := []) (ct := []) (oc := []) klw_shape_ok xnof xnok xnoc [405, 414, 923] [] [] 60 ?_
  refine hS 414 _ _ _ _ (i + 1) (klw_shape_ok.at 414 rfl) (nI_add i 1) (by omega) ?_
  refine hR.run (ft := []) (ct := []) (oc := []) klw_shape_ok xnof xnok xnoc [405, 414, 923] [] [] 60 ?_
  refine hR.callQ (rest := [.int (zi (sp_shape S (xs (i + 1)).toInt))]) (as := [.int (xs (i + 1))]) 59 cl1 (r_shape l S Gr hr  (xs (i + 1))) yX11_shape_ok lkL_44 ivX11_shape slX11_shape ⟨rfl, rfl, by decide, by decide⟩ (klw_shape_ok.at 415 rfl) rfl rfl (xrs_ok rfl) r0 rfl rfl (fun _ _ q => by rw [(RInv_facts q.2).1, rl]) (fun _ _ q v e => by rw [q.1] at e; cases e; rfl) (fun r9 G2 q => ?_)
  obtain ⟨rfl, hr1⟩ := q
  refine hR.run (ft := []) (ct := []) (oc := []) klw_shape_ok xnof xnok xnoc [405, 414, 923] [] [] 60 ?_
  exact ⟨fun _ => next _ _ _ hc1 hr1 hI, fun h => absurd rfl h⟩
def klw_cross : List xI := [(423, .aload_n 1, 1), (424, .aload_n 0, 1), (425, .iload_n 3, 1), (426, .iconst 1, 1), (427, .iadd, 1), (428, .iaload, 1), (429, .aload_n 0, 1), (430, .iload_n 3, 1), (431, .iconst 2, 1), (432, .iadd, 1), (433, .iaload, 1), (434, .aload_n 0, 1), (435, .iload_n 3, 1), (436, .iconst 3, 1), (437, .iadd, 1), (438, .iaload, 1), (439, .aload_n 0, 1), (440, .iload_n 3, 1), (441, .iconst 4, 1), (442, .iadd, 1), (443, .iaload, 1), (444, .aload_n 0, 1), (445, .iload_n 3, 1), (446, .iconst 5, 1), (447, .iadd, 1), (448, .iaload, 1), (449, .invokevirtual 45, 3), (452, .aload_n 2, 1), (453, .aload_n 0, 1), (454, .iload_n 3, 1), (455, .iconst 1, 1), (456, .iadd, 1), (457, .iaload, 1), (458, .aload_n 0, 1), (459, .iload_n 3, 1), (460, .iconst 2, 1), (461, .iadd, 1), (462, .iaload, 1), (463, .aload_n 0, 1), (464, .iload_n 3, 1), (465, .iconst 3, 1), (466, .iadd, 1), (467, .iaload, 1), (468, .aload_n 0, 1), (469, .iload_n 3, 1), (470, .iconst 4, 1), (471, .iadd, 1), (472, .iaload, 1), (473, .aload_n 0, 1), (474, .iload_n 3, 1), (475, .iconst 5, 1), (476, .iadd, 1), (477, .iaload, 1), (478, .invokevirtual 49, 3), (481, .lcmp, 1), (482, .ifCond .eq 441, 3), (485, .iconst 0, 1), (486, .ireturn, 1)]
theorem klw_cross_ok : xsf cL_law klw_cross := ⟨by decide +kernel, by decide +kernel⟩
set_option maxHeartbeats 4000000 in
set_option maxRecDepth 100000 in
theorem lw_cross {l : Launch} {X : Nat → List (Option Value) → List Value → List xE → Prop} {xs : Nat → Int32} {L i : Nat} (hC : lwC l X xs L) (hi : i + 7 ≤ L) {S : SS} {G0 Gr : List xE} (hc : CInv S G0) (hr : RInv S Gr) (hI : InvS S) (next : ∀ S' G0' Gr', CInv S' G0' → RInv S' Gr' → InvS S' → X 923 [some (.ref 1000), some (.ref 0), some (.ref 59), some (.int (nI i))] [] (G0' ++ Gr'.map (xren (fun j => 59 + j)))) : X 423 [some (.ref 1000), some (.ref 0), some (.ref 59), some (.int (nI i))] [] (G0 ++ Gr.map (xren (fun j => 59 + j))) := by
  obtain ⟨hR, hS, -⟩ := hC
  have cf := CInv_facts hc
  obtain ⟨cl, fs, c0⟩ := cf.2.2.2
  obtain ⟨rl, fr, r0⟩ := RInv_facts hr
  refine hR.run (ft := []) (ct := []) (oc := []) klw_cross_ok xnof xnok xnoc [428, 433, 438, 443, 448, 457, 462, 467, 472, 477, 923] [] [] 60 ?_
  refine hS 428 _ _ _ _ (i + 1) (klw_cross_ok.at 428 rfl) (nI_add i 1) (by omega) ?_
  refine hR.run (ft := []) (ct := []) (oc := []) klw_cross_ok xnof xnok xnoc [428, 433, 438, 443, 448, 457, 462, 467, 472, 477, 923] [] [] 60 ?_
  refine hS 433 _ _ _ _ (i + 2) (klw_cross_ok.at 433 rfl) (nI_add i 2) (by omega) ?_
  refine hR.run (ft := []) (ct := []) (oc := []) klw_cross_ok xnof xnok xnoc [428, 433, 438, 443, 448, 457, 462, 467, 472, 477, 923] [] [] 60 ?_
  refine hS 438 _ _ _ _ (i + 3) (klw_cross_ok.at 438 rfl) (nI_add i 3) (by omega) ?_
  refine hR.run (ft := []) (ct := []) (oc := []) klw_cross_ok xnof xnok xnoc [428, 433, 438, 443, 448, 457, 462, 467, 472, 477, 923] [] [] 60 ?_
  refine hS 443 _ _ _ _ (i + 4) (klw_cross_ok.at 443 rfl) (nI_add i 4) (by omega) ?_
  refine hR.run (ft := []) (ct := []) (oc := []) klw_cross_ok xnof xnok xnoc [428, 433, 438, 443, 448, 457, 462, 467, 472, 477, 923] [] [] 60 ?_
  refine hS 448 _ _ _ _ (i + 5) (klw_cross_ok.at 448 rfl) (nI_add i 5) (by omega) ?_
  refine hR.run (ft := []) (ct := []) (oc := []) klw_cross_ok xnof xnok xnoc [428, 433, 438, 443, 448, 457, 462, 467, 472, 477, 923] [] [] 60 ?_
  refine hR.callP (rest := []) (as := [.int (xs (i + 1)), .int (xs (i + 2)), .int (xs (i + 3)), .int (xs (i + 4)), .int (xs (i + 5))]) (k_cross l S G0 hc  (xs (i + 1)) (xs (i + 2)) (xs (i + 3)) (xs (i + 4)) (xs (i + 5))) yX10_cross_ok lkL_45 ivX10_cross slX10_cross ⟨rfl, rfl, by decide, by decide⟩ (klw_cross_ok.at 449 rfl) rfl rfl (by decide) c0 rfl rfl (fun _ _ q => by rw [(CInv_facts q.2).2.2.2.1, cl]) (fun _ _ q v e => by rw [q.1] at e; cases e; rfl) (fun r9 G1 q => ?_)
  obtain ⟨rfl, hc1⟩ := q
  have cl1 := (CInv_facts hc1).2.2.2.1
  refine hR.run (ft := []) (ct := []) (oc := []) klw_cross_ok xnof xnok xnoc [428, 433, 438, 443, 448, 457, 462, 467, 472, 477, 923] [] [] 60 ?_
  refine hS 457 _ _ _ _ (i + 1) (klw_cross_ok.at 457 rfl) (nI_add i 1) (by omega) ?_
  refine hR.run (ft := []) (ct := []) (oc := []) klw_cross_ok xnof xnok xnoc [428, 433, 438, 443, 448, 457, 462, 467, 472, 477, 923] [] [] 60 ?_
  refine hS 462 _ _ _ _ (i + 2) (klw_cross_ok.at 462 rfl) (nI_add i 2) (by omega) ?_
  refine hR.run (ft := []) (ct := []) (oc := []) klw_cross_ok xnof xnok xnoc [428, 433, 438, 443, 448, 457, 462, 467, 472, 477, 923] [] [] 60 ?_
  refine hS 467 _ _ _ _ (i + 3) (klw_cross_ok.at 467 rfl) (nI_add i 3) (by omega) ?_
  refine hR.run (ft := []) (ct := []) (oc := []) klw_cross_ok xnof xnok xnoc [428, 433, 438, 443, 448, 457, 462, 467, 472, 477, 923] [] [] 60 ?_
  refine hS 472 _ _ _ _ (i + 4) (klw_cross_ok.at 472 rfl) (nI_add i 4) (by omega) ?_
  refine hR.run (ft := []) (ct := []) (oc := []) klw_cross_ok xnof xnok xnoc [428, 433, 438, 443, 448, 457, 462, 467, 472, 477, 923] [] [] 60 ?_
  refine hS 477 _ _ _ _ (i + 5) (klw_cross_ok.at 477 rfl) (nI_add i 5) (by omega) ?_
  refine hR.run (ft := []) (ct := []) (oc := []) klw_cross_ok xnof xnok xnoc [428, 433, 438, 443, 448, 457, 462, 467, 472, 477, 923] [] [] 60 ?_
  refine hR.callQ (rest := [.long (zl (sp_cross S (xs (i + 1)).toInt (xs (i + 2)).toInt (xs (i + 3)).toInt (xs (i + 4)).toInt (xs (i + 5)).toInt))]) (as := [.int (xs (i + 1)), .int (xs (i + 2)), .int (xs (i + 3)), .int (xs (i + 4)), .int (xs (i + 5))]) 59 cl1 (r_cross l S Gr hr (inv_apart hI.1) (xs (i + 1)) (xs (i + 2)) (xs (i + 3)) (xs (i + 4)) (xs (i + 5))) yX11_cross_ok lkL_49 ivX11_cross slX11_cross ⟨rfl, rfl, by decide, by decide⟩ (klw_cross_ok.at 478 rfl) rfl rfl (xrs_ok rfl) r0 rfl rfl (fun _ _ q => by rw [(RInv_facts q.2).1, rl]) (fun _ _ q v e => by rw [q.1] at e; cases e; rfl) (fun r9 G2 q => ?_)
  obtain ⟨rfl, hr1⟩ := q
  refine hR.run (ft := []) (ct := []) (oc := []) klw_cross_ok xnof xnok xnoc [428, 433, 438, 443, 448, 457, 462, 467, 472, 477, 923] [] [] 60 ?_
  exact ⟨fun _ => next _ _ _ hc1 hr1 hI, fun h => absurd (lgc_eq.mpr rfl) h⟩
def klw_give : List xI := [(487, .aload_n 1, 1), (488, .aload_n 0, 1), (489, .iload_n 3, 1), (490, .iconst 1, 1), (491, .iadd, 1), (492, .iaload, 1), (493, .invokevirtual 50, 3), (496, .aload_n 2, 1), (497, .aload_n 0, 1), (498, .iload_n 3, 1), (499, .iconst 1, 1), (500, .iadd, 1), (501, .iaload, 1), (502, .invokevirtual 53, 3), (505, .if_icmp .eq 418, 3), (508, .iconst 0, 1), (509, .ireturn, 1)]
theorem klw_give_ok : xsf cL_law klw_give := ⟨by decide +kernel, by decide +kernel⟩
set_option maxHeartbeats 4000000 in
set_option maxRecDepth 100000 in
theorem lw_give {l : Launch} {X : Nat → List (Option Value) → List Value → List xE → Prop} {xs : Nat → Int32} {L i : Nat} (hC : lwC l X xs L) (hi : i + 7 ≤ L) {S : SS} {G0 Gr : List xE} (hc : CInv S G0) (hr : RInv S Gr) (hI : InvS S) (next : ∀ S' G0' Gr', CInv S' G0' → RInv S' Gr' → InvS S' → X 923 [some (.ref 1000), some (.ref 0), some (.ref 59), some (.int (nI i))] [] (G0' ++ Gr'.map (xren (fun j => 59 + j)))) : X 487 [some (.ref 1000), some (.ref 0), some (.ref 59), some (.int (nI i))] [] (G0 ++ Gr.map (xren (fun j => 59 + j))) := by
  obtain ⟨hR, hS, -⟩ := hC
  have cf := CInv_facts hc
  obtain ⟨cl, fs, c0⟩ := cf.2.2.2
  obtain ⟨rl, fr, r0⟩ := RInv_facts hr
  refine hR.run (ft := []) (ct := []) (oc := []) klw_give_ok xnof xnok xnoc [492, 501, 923] [] [] 60 ?_
  refine hS 492 _ _ _ _ (i + 1) (klw_give_ok.at 492 rfl) (nI_add i 1) (by omega) ?_
  refine hR.run (ft := []) (ct := []) (oc := []) klw_give_ok xnof xnok xnoc [492, 501, 923] [] [] 60 ?_
  refine hR.callP (rest := []) (as := [.int (xs (i + 1))]) (k_give l S G0 hc  (xs (i + 1))) yX10_give_ok lkL_50 ivX10_give slX10_give ⟨rfl, rfl, by decide, by decide⟩ (klw_give_ok.at 493 rfl) rfl rfl (by decide) c0 rfl rfl (fun _ _ q => by rw [(CInv_facts q.2).2.2.2.1, cl]) (fun _ _ q v e => by rw [q.1] at e; cases e; rfl) (fun r9 G1 q => ?_)
  obtain ⟨rfl, hc1⟩ := q
  have cl1 := (CInv_facts hc1).2.2.2.1
  refine hR.run (ft := []) (ct := []) (oc := []) klw_give_ok xnof xnok xnoc [492, 501, 923] [] [] 60 ?_
  refine hS 501 _ _ _ _ (i + 1) (klw_give_ok.at 501 rfl) (nI_add i 1) (by omega) ?_
  refine hR.run (ft := []) (ct := []) (oc := []) klw_give_ok xnof xnok xnoc [492, 501, 923] [] [] 60 ?_
  refine hR.callQ (rest := [.int (zi (sp_give S (xs (i + 1)).toInt).1)]) (as := [.int (xs (i + 1))]) 59 cl1 (r_give l S Gr hr  (xs (i + 1))) yX11_give_ok lkL_53 ivX11_give slX11_give ⟨rfl, rfl, by decide, by decide⟩ (klw_give_ok.at 502 rfl) rfl rfl (xrs_ok rfl) r0 rfl rfl (fun _ _ q => by rw [(RInv_facts q.2).1, rl]) (fun _ _ q v e => by rw [q.1] at e; cases e; rfl) (fun r9 G2 q => ?_)
  obtain ⟨rfl, hr1⟩ := q
  refine hR.run (ft := []) (ct := []) (oc := []) klw_give_ok xnof xnok xnoc [492, 501, 923] [] [] 60 ?_
  exact ⟨fun _ => next _ _ _ hc1 hr1 (inv_give hI _), fun h => absurd rfl h⟩
def klw_make : List xI := [(510, .aload_n 1, 1), (511, .aload_n 0, 1), (512, .iload_n 3, 1), (513, .iconst 1, 1), (514, .iadd, 1), (515, .iaload, 1), (516, .aload_n 0, 1), (517, .iload_n 3, 1), (518, .iconst 2, 1), (519, .iadd, 1), (520, .iaload, 1), (521, .aload_n 0, 1), (522, .iload_n 3, 1), (523, .iconst 3, 1), (524, .iadd, 1), (525, .iaload, 1), (526, .invokevirtual 54, 3), (529, .aload_n 2, 1), (530, .aload_n 0, 1), (531, .iload_n 3, 1), (532, .iconst 1, 1), (533, .iadd, 1), (534, .iaload, 1), (535, .aload_n 0, 1), (536, .iload_n 3, 1), (537, .iconst 2, 1), (538, .iadd, 1), (539, .iaload, 1), (540, .aload_n 0, 1), (541, .iload_n 3, 1), (542, .iconst 3, 1), (543, .iadd, 1), (544, .iaload, 1), (545, .invokevirtual 57, 3), (548, .if_icmp .eq 375, 3), (551, .iconst 0, 1), (552, .ireturn, 1)]
theorem klw_make_ok : xsf cL_law klw_make := ⟨by decide +kernel, by decide +kernel⟩
set_option maxHeartbeats 4000000 in
set_option maxRecDepth 100000 in
theorem lw_make {l : Launch} {X : Nat → List (Option Value) → List Value → List xE → Prop} {xs : Nat → Int32} {L i : Nat} (hC : lwC l X xs L) (hi : i + 7 ≤ L) {S : SS} {G0 Gr : List xE} (hc : CInv S G0) (hr : RInv S Gr) (hI : InvS S) (next : ∀ S' G0' Gr', CInv S' G0' → RInv S' Gr' → InvS S' → X 923 [some (.ref 1000), some (.ref 0), some (.ref 59), some (.int (nI i))] [] (G0' ++ Gr'.map (xren (fun j => 59 + j)))) : X 510 [some (.ref 1000), some (.ref 0), some (.ref 59), some (.int (nI i))] [] (G0 ++ Gr.map (xren (fun j => 59 + j))) := by
  obtain ⟨hR, hS, -⟩ := hC
  have cf := CInv_facts hc
  obtain ⟨cl, fs, c0⟩ := cf.2.2.2
  obtain ⟨rl, fr, r0⟩ := RInv_facts hr
  refine hR.run (ft := []) (ct := []) (oc := []) klw_make_ok xnof xnok xnoc [515, 520, 525, 534, 539, 544, 923] [] [] 60 ?_
  refine hS 515 _ _ _ _ (i + 1) (klw_make_ok.at 515 rfl) (nI_add i 1) (by omega) ?_
  refine hR.run (ft := []) (ct := []) (oc := []) klw_make_ok xnof xnok xnoc [515, 520, 525, 534, 539, 544, 923] [] [] 60 ?_
  refine hS 520 _ _ _ _ (i + 2) (klw_make_ok.at 520 rfl) (nI_add i 2) (by omega) ?_
  refine hR.run (ft := []) (ct := []) (oc := []) klw_make_ok xnof xnok xnoc [515, 520, 525, 534, 539, 544, 923] [] [] 60 ?_
  refine hS 525 _ _ _ _ (i + 3) (klw_make_ok.at 525 rfl) (nI_add i 3) (by omega) ?_
  refine hR.run (ft := []) (ct := []) (oc := []) klw_make_ok xnof xnok xnoc [515, 520, 525, 534, 539, 544, 923] [] [] 60 ?_
  refine hR.callP (rest := []) (as := [.int (xs (i + 1)), .int (xs (i + 2)), .int (xs (i + 3))]) (k_make l S G0 hc (xs (i + 1)) (xs (i + 2)) (xs (i + 3)) (fun q ha hk hu hv h0 => by obtain ⟨b1, b2⟩ := make_hB hI.1 cf.2.1 cf.2.2.1 hu hv q ha hk h0; exact ⟨fun j hj => ab_jr (b1 j hj) (by decide), b2⟩)) yX10_make_ok lkL_54 ivX10_make slX10_make ⟨rfl, rfl, by decide, by decide⟩ (klw_make_ok.at 526 rfl) rfl rfl (by decide) c0 rfl rfl (fun _ _ q => by obtain ⟨_, _, -, q⟩ := q; rw [(CInv_facts q).2.2.2.1, cl]) (fun _ _ q v e => by obtain ⟨_, _, q, -⟩ := q; rw [q] at e; cases e; rfl) (fun r9 G1 q => ?_)
  obtain ⟨q9, ha9, rfl, hc1⟩ := q
  rw [make_eq hI.1 cf.2.1 cf.2.2.1 ha9] at hc1 ⊢
  have cl1 := (CInv_facts hc1).2.2.2.1
  refine hR.run (ft := []) (ct := []) (oc := []) klw_make_ok xnof xnok xnoc [515, 520, 525, 534, 539, 544, 923] [] [] 60 ?_
  refine hS 534 _ _ _ _ (i + 1) (klw_make_ok.at 534 rfl) (nI_add i 1) (by omega) ?_
  refine hR.run (ft := []) (ct := []) (oc := []) klw_make_ok xnof xnok xnoc [515, 520, 525, 534, 539, 544, 923] [] [] 60 ?_
  refine hS 539 _ _ _ _ (i + 2) (klw_make_ok.at 539 rfl) (nI_add i 2) (by omega) ?_
  refine hR.run (ft := []) (ct := []) (oc := []) klw_make_ok xnof xnok xnoc [515, 520, 525, 534, 539, 544, 923] [] [] 60 ?_
  refine hS 544 _ _ _ _ (i + 3) (klw_make_ok.at 544 rfl) (nI_add i 3) (by omega) ?_
  refine hR.run (ft := []) (ct := []) (oc := []) klw_make_ok xnof xnok xnoc [515, 520, 525, 534, 539, 544, 923] [] [] 60 ?_
  refine hR.callQ (rest := [.int (zi (sp_make S (xs (i + 1)).toInt (xs (i + 2)).toInt (xs (i + 3)).toInt).1)]) (as := [.int (xs (i + 1)), .int (xs (i + 2)), .int (xs (i + 3))]) 59 cl1 (r_make l S Gr hr prm_inv (xs (i + 1)) (xs (i + 2)) (xs (i + 3))) yX11_make_ok lkL_57 ivX11_make slX11_make ⟨rfl, rfl, by decide, by decide⟩ (klw_make_ok.at 545 rfl) rfl rfl (xrs_ok rfl) r0 rfl rfl (fun _ _ q => by rw [(RInv_facts q.2).1, rl]) (fun _ _ q v e => by rw [q.1] at e; cases e; rfl) (fun r9 G2 q => ?_)
  obtain ⟨rfl, hr1⟩ := q
  refine hR.run (ft := []) (ct := []) (oc := []) klw_make_ok xnof xnok xnoc [515, 520, 525, 534, 539, 544, 923] [] [] 60 ?_
  exact ⟨fun _ => next _ _ _ hc1 hr1 (inv_make hI _ _ _), fun h => absurd rfl h⟩
def klw_count : List xI := [(553, .aload_n 1, 1), (554, .aload_n 0, 1), (555, .iload_n 3, 1), (556, .iconst 1, 1), (557, .iadd, 1), (558, .iaload, 1), (559, .invokevirtual 58, 3), (562, .aload_n 2, 1), (563, .aload_n 0, 1), (564, .iload_n 3, 1), (565, .iconst 1, 1), (566, .iadd, 1), (567, .iaload, 1), (568, .invokevirtual 61, 3), (571, .if_icmp .eq 352, 3), (574, .iconst 0, 1), (575, .ireturn, 1)]
theorem klw_count_ok : xsf cL_law klw_count := ⟨by decide +kernel, by decide +kernel⟩
set_option maxHeartbeats 4000000 in
set_option maxRecDepth 100000 in
theorem lw_count {l : Launch} {X : Nat → List (Option Value) → List Value → List xE → Prop} {xs : Nat → Int32} {L i : Nat} (hC : lwC l X xs L) (hi : i + 7 ≤ L) {S : SS} {G0 Gr : List xE} (hc : CInv S G0) (hr : RInv S Gr) (hI : InvS S) (next : ∀ S' G0' Gr', CInv S' G0' → RInv S' Gr' → InvS S' → X 923 [some (.ref 1000), some (.ref 0), some (.ref 59), some (.int (nI i))] [] (G0' ++ Gr'.map (xren (fun j => 59 + j)))) : X 553 [some (.ref 1000), some (.ref 0), some (.ref 59), some (.int (nI i))] [] (G0 ++ Gr.map (xren (fun j => 59 + j))) := by
  obtain ⟨hR, hS, -⟩ := hC
  have cf := CInv_facts hc
  obtain ⟨cl, fs, c0⟩ := cf.2.2.2
  obtain ⟨rl, fr, r0⟩ := RInv_facts hr
  refine hR.run (ft := []) (ct := []) (oc := []) klw_count_ok xnof xnok xnoc [558, 567, 923] [] [] 60 ?_
  refine hS 558 _ _ _ _ (i + 1) (klw_count_ok.at 558 rfl) (nI_add i 1) (by omega) ?_
  refine hR.run (ft := []) (ct := []) (oc := []) klw_count_ok xnof xnok xnoc [558, 567, 923] [] [] 60 ?_
  refine hR.callP (rest := []) (as := [.int (xs (i + 1))]) (k_count l S G0 hc  (xs (i + 1))) yX10_count_ok lkL_58 ivX10_count slX10_count ⟨rfl, rfl, by decide, by decide⟩ (klw_count_ok.at 559 rfl) rfl rfl (by decide) c0 rfl rfl (fun _ _ q => by rw [(CInv_facts q.2).2.2.2.1, cl]) (fun _ _ q v e => by rw [q.1] at e; cases e; rfl) (fun r9 G1 q => ?_)
  obtain ⟨rfl, hc1⟩ := q
  have cl1 := (CInv_facts hc1).2.2.2.1
  refine hR.run (ft := []) (ct := []) (oc := []) klw_count_ok xnof xnok xnoc [558, 567, 923] [] [] 60 ?_
  refine hS 567 _ _ _ _ (i + 1) (klw_count_ok.at 567 rfl) (nI_add i 1) (by omega) ?_
  refine hR.run (ft := []) (ct := []) (oc := []) klw_count_ok xnof xnok xnoc [558, 567, 923] [] [] 60 ?_
  refine hR.callQ (rest := [.int (zi (sp_count S (xs (i + 1)).toInt))]) (as := [.int (xs (i + 1))]) 59 cl1 (r_count l S Gr hr  (xs (i + 1))) yX11_count_ok lkL_61 ivX11_count slX11_count ⟨rfl, rfl, by decide, by decide⟩ (klw_count_ok.at 568 rfl) rfl rfl (xrs_ok rfl) r0 rfl rfl (fun _ _ q => by rw [(RInv_facts q.2).1, rl]) (fun _ _ q v e => by rw [q.1] at e; cases e; rfl) (fun r9 G2 q => ?_)
  obtain ⟨rfl, hr1⟩ := q
  refine hR.run (ft := []) (ct := []) (oc := []) klw_count_ok xnof xnok xnoc [558, 567, 923] [] [] 60 ?_
  exact ⟨fun _ => next _ _ _ hc1 hr1 hI, fun h => absurd rfl h⟩
def klw_entry : List xI := [(576, .aload_n 1, 1), (577, .aload_n 0, 1), (578, .iload_n 3, 1), (579, .iconst 1, 1), (580, .iadd, 1), (581, .iaload, 1), (582, .aload_n 0, 1), (583, .iload_n 3, 1), (584, .iconst 2, 1), (585, .iadd, 1), (586, .iaload, 1), (587, .invokevirtual 62, 3), (590, .aload_n 2, 1), (591, .aload_n 0, 1), (592, .iload_n 3, 1), (593, .iconst 1, 1), (594, .iadd, 1), (595, .iaload, 1), (596, .aload_n 0, 1), (597, .iload_n 3, 1), (598, .iconst 2, 1), (599, .iadd, 1), (600, .iaload, 1), (601, .invokevirtual 65, 3), (604, .if_icmp .eq 319, 3), (607, .iconst 0, 1), (608, .ireturn, 1)]
theorem klw_entry_ok : xsf cL_law klw_entry := ⟨by decide +kernel, by decide +kernel⟩
set_option maxHeartbeats 4000000 in
set_option maxRecDepth 100000 in
theorem lw_entry {l : Launch} {X : Nat → List (Option Value) → List Value → List xE → Prop} {xs : Nat → Int32} {L i : Nat} (hC : lwC l X xs L) (hi : i + 7 ≤ L) {S : SS} {G0 Gr : List xE} (hc : CInv S G0) (hr : RInv S Gr) (hI : InvS S) (next : ∀ S' G0' Gr', CInv S' G0' → RInv S' Gr' → InvS S' → X 923 [some (.ref 1000), some (.ref 0), some (.ref 59), some (.int (nI i))] [] (G0' ++ Gr'.map (xren (fun j => 59 + j)))) : X 576 [some (.ref 1000), some (.ref 0), some (.ref 59), some (.int (nI i))] [] (G0 ++ Gr.map (xren (fun j => 59 + j))) := by
  obtain ⟨hR, hS, -⟩ := hC
  have cf := CInv_facts hc
  obtain ⟨cl, fs, c0⟩ := cf.2.2.2
  obtain ⟨rl, fr, r0⟩ := RInv_facts hr
  refine hR.run (ft := []) (ct := []) (oc := []) klw_entry_ok xnof xnok xnoc [581, 586, 595, 600, 923] [] [] 60 ?_
  refine hS 581 _ _ _ _ (i + 1) (klw_entry_ok.at 581 rfl) (nI_add i 1) (by omega) ?_
  refine hR.run (ft := []) (ct := []) (oc := []) klw_entry_ok xnof xnok xnoc [581, 586, 595, 600, 923] [] [] 60 ?_
  refine hS 586 _ _ _ _ (i + 2) (klw_entry_ok.at 586 rfl) (nI_add i 2) (by omega) ?_
  refine hR.run (ft := []) (ct := []) (oc := []) klw_entry_ok xnof xnok xnoc [581, 586, 595, 600, 923] [] [] 60 ?_
  refine hR.callP (rest := []) (as := [.int (xs (i + 1)), .int (xs (i + 2))]) (k_entry l S G0 hc  (xs (i + 1)) (xs (i + 2))) yX10_entry_ok lkL_62 ivX10_entry slX10_entry ⟨rfl, rfl, by decide, by decide⟩ (klw_entry_ok.at 587 rfl) rfl rfl (by decide) c0 rfl rfl (fun _ _ q => by rw [(CInv_facts q.2).2.2.2.1, cl]) (fun _ _ q v e => by rw [q.1] at e; cases e; rfl) (fun r9 G1 q => ?_)
  obtain ⟨rfl, hc1⟩ := q
  have cl1 := (CInv_facts hc1).2.2.2.1
  refine hR.run (ft := []) (ct := []) (oc := []) klw_entry_ok xnof xnok xnoc [581, 586, 595, 600, 923] [] [] 60 ?_
  refine hS 595 _ _ _ _ (i + 1) (klw_entry_ok.at 595 rfl) (nI_add i 1) (by omega) ?_
  refine hR.run (ft := []) (ct := []) (oc := []) klw_entry_ok xnof xnok xnoc [581, 586, 595, 600, 923] [] [] 60 ?_
  refine hS 600 _ _ _ _ (i + 2) (klw_entry_ok.at 600 rfl) (nI_add i 2) (by omega) ?_
  refine hR.run (ft := []) (ct := []) (oc := []) klw_entry_ok xnof xnok xnoc [581, 586, 595, 600, 923] [] [] 60 ?_
  refine hR.callQ (rest := [.int (zi (sp_entry S (xs (i + 1)).toInt (xs (i + 2)).toInt))]) (as := [.int (xs (i + 1)), .int (xs (i + 2))]) 59 cl1 (r_entry l S Gr hr  (xs (i + 1)) (xs (i + 2))) yX11_entry_ok lkL_65 ivX11_entry slX11_entry ⟨rfl, rfl, by decide, by decide⟩ (klw_entry_ok.at 601 rfl) rfl rfl (xrs_ok rfl) r0 rfl rfl (fun _ _ q => by rw [(RInv_facts q.2).1, rl]) (fun _ _ q v e => by rw [q.1] at e; cases e; rfl) (fun r9 G2 q => ?_)
  obtain ⟨rfl, hr1⟩ := q
  refine hR.run (ft := []) (ct := []) (oc := []) klw_entry_ok xnof xnok xnoc [581, 586, 595, 600, 923] [] [] 60 ?_
  exact ⟨fun _ => next _ _ _ hc1 hr1 hI, fun h => absurd rfl h⟩
def klw_then : List xI := [(609, .aload_n 1, 1), (610, .aload_n 0, 1), (611, .iload_n 3, 1), (612, .iconst 1, 1), (613, .iadd, 1), (614, .iaload, 1), (615, .aload_n 0, 1), (616, .iload_n 3, 1), (617, .iconst 2, 1), (618, .iadd, 1), (619, .iaload, 1), (620, .invokevirtual 66, 3), (623, .aload_n 2, 1), (624, .aload_n 0, 1), (625, .iload_n 3, 1), (626, .iconst 1, 1), (627, .iadd, 1), (628, .iaload, 1), (629, .aload_n 0, 1), (630, .iload_n 3, 1), (631, .iconst 2, 1), (632, .iadd, 1), (633, .iaload, 1), (634, .invokevirtual 69, 3), (637, .if_icmp .eq 286, 3), (640, .iconst 0, 1), (641, .ireturn, 1)]
theorem klw_then_ok : xsf cL_law klw_then := ⟨by decide +kernel, by decide +kernel⟩
set_option maxHeartbeats 4000000 in
set_option maxRecDepth 100000 in
theorem lw_then {l : Launch} {X : Nat → List (Option Value) → List Value → List xE → Prop} {xs : Nat → Int32} {L i : Nat} (hC : lwC l X xs L) (hi : i + 7 ≤ L) {S : SS} {G0 Gr : List xE} (hc : CInv S G0) (hr : RInv S Gr) (hI : InvS S) (next : ∀ S' G0' Gr', CInv S' G0' → RInv S' Gr' → InvS S' → X 923 [some (.ref 1000), some (.ref 0), some (.ref 59), some (.int (nI i))] [] (G0' ++ Gr'.map (xren (fun j => 59 + j)))) : X 609 [some (.ref 1000), some (.ref 0), some (.ref 59), some (.int (nI i))] [] (G0 ++ Gr.map (xren (fun j => 59 + j))) := by
  obtain ⟨hR, hS, -⟩ := hC
  have cf := CInv_facts hc
  obtain ⟨cl, fs, c0⟩ := cf.2.2.2
  obtain ⟨rl, fr, r0⟩ := RInv_facts hr
  refine hR.run (ft := []) (ct := []) (oc := []) klw_then_ok xnof xnok xnoc [614, 619, 628, 633, 923] [] [] 60 ?_
  refine hS 614 _ _ _ _ (i + 1) (klw_then_ok.at 614 rfl) (nI_add i 1) (by omega) ?_
  refine hR.run (ft := []) (ct := []) (oc := []) klw_then_ok xnof xnok xnoc [614, 619, 628, 633, 923] [] [] 60 ?_
  refine hS 619 _ _ _ _ (i + 2) (klw_then_ok.at 619 rfl) (nI_add i 2) (by omega) ?_
  refine hR.run (ft := []) (ct := []) (oc := []) klw_then_ok xnof xnok xnoc [614, 619, 628, 633, 923] [] [] 60 ?_
  refine hR.callP (rest := []) (as := [.int (xs (i + 1)), .int (xs (i + 2))]) (k_then l S G0 hc hI.2.1 (xs (i + 1)) (xs (i + 2))) yX10_then_ok lkL_66 ivX10_then slX10_then ⟨rfl, rfl, by decide, by decide⟩ (klw_then_ok.at 620 rfl) rfl rfl (by decide) c0 rfl rfl (fun _ _ q => by rw [(CInv_facts q.2).2.2.2.1, cl]) (fun _ _ q v e => by rw [q.1] at e; cases e; rfl) (fun r9 G1 q => ?_)
  obtain ⟨rfl, hc1⟩ := q
  have cl1 := (CInv_facts hc1).2.2.2.1
  refine hR.run (ft := []) (ct := []) (oc := []) klw_then_ok xnof xnok xnoc [614, 619, 628, 633, 923] [] [] 60 ?_
  refine hS 628 _ _ _ _ (i + 1) (klw_then_ok.at 628 rfl) (nI_add i 1) (by omega) ?_
  refine hR.run (ft := []) (ct := []) (oc := []) klw_then_ok xnof xnok xnoc [614, 619, 628, 633, 923] [] [] 60 ?_
  refine hS 633 _ _ _ _ (i + 2) (klw_then_ok.at 633 rfl) (nI_add i 2) (by omega) ?_
  refine hR.run (ft := []) (ct := []) (oc := []) klw_then_ok xnof xnok xnoc [614, 619, 628, 633, 923] [] [] 60 ?_
  refine hR.callQ (rest := [.int (zi (sp_then S (xs (i + 1)).toInt (xs (i + 2)).toInt).1)]) (as := [.int (xs (i + 1)), .int (xs (i + 2))]) 59 cl1 (r_then l S Gr hr hI.2.1 (xs (i + 1)) (xs (i + 2))) yX11_then_ok lkL_69 ivX11_then slX11_then ⟨rfl, rfl, by decide, by decide⟩ (klw_then_ok.at 634 rfl) rfl rfl (xrs_ok rfl) r0 rfl rfl (fun _ _ q => by rw [(RInv_facts q.2).1, rl]) (fun _ _ q v e => by rw [q.1] at e; cases e; rfl) (fun r9 G2 q => ?_)
  obtain ⟨rfl, hr1⟩ := q
  refine hR.run (ft := []) (ct := []) (oc := []) klw_then_ok xnof xnok xnoc [614, 619, 628, 633, 923] [] [] 60 ?_
  exact ⟨fun _ => next _ _ _ hc1 hr1 (inv_then hI _ _), fun h => absurd rfl h⟩
def klw_back : List xI := [(642, .aload_n 1, 1), (643, .aload_n 0, 1), (644, .iload_n 3, 1), (645, .iconst 1, 1), (646, .iadd, 1), (647, .iaload, 1), (648, .invokevirtual 70, 3), (651, .aload_n 2, 1), (652, .aload_n 0, 1), (653, .iload_n 3, 1), (654, .iconst 1, 1), (655, .iadd, 1), (656, .iaload, 1), (657, .invokevirtual 73, 3), (660, .if_icmp .eq 263, 3), (663, .iconst 0, 1), (664, .ireturn, 1)]
theorem klw_back_ok : xsf cL_law klw_back := ⟨by decide +kernel, by decide +kernel⟩
set_option maxHeartbeats 4000000 in
set_option maxRecDepth 100000 in
theorem lw_back {l : Launch} {X : Nat → List (Option Value) → List Value → List xE → Prop} {xs : Nat → Int32} {L i : Nat} (hC : lwC l X xs L) (hi : i + 7 ≤ L) {S : SS} {G0 Gr : List xE} (hc : CInv S G0) (hr : RInv S Gr) (hI : InvS S) (next : ∀ S' G0' Gr', CInv S' G0' → RInv S' Gr' → InvS S' → X 923 [some (.ref 1000), some (.ref 0), some (.ref 59), some (.int (nI i))] [] (G0' ++ Gr'.map (xren (fun j => 59 + j)))) : X 642 [some (.ref 1000), some (.ref 0), some (.ref 59), some (.int (nI i))] [] (G0 ++ Gr.map (xren (fun j => 59 + j))) := by
  obtain ⟨hR, hS, -⟩ := hC
  have cf := CInv_facts hc
  obtain ⟨cl, fs, c0⟩ := cf.2.2.2
  obtain ⟨rl, fr, r0⟩ := RInv_facts hr
  refine hR.run (ft := []) (ct := []) (oc := []) klw_back_ok xnof xnok xnoc [647, 656, 923] [] [] 60 ?_
  refine hS 647 _ _ _ _ (i + 1) (klw_back_ok.at 647 rfl) (nI_add i 1) (by omega) ?_
  refine hR.run (ft := []) (ct := []) (oc := []) klw_back_ok xnof xnok xnoc [647, 656, 923] [] [] 60 ?_
  refine hR.callP (rest := []) (as := [.int (xs (i + 1))]) (k_back l S G0 hc hI.2.1 (xs (i + 1))) yX10_back_ok lkL_70 ivX10_back slX10_back ⟨rfl, rfl, by decide, by decide⟩ (klw_back_ok.at 648 rfl) rfl rfl (by decide) c0 rfl rfl (fun _ _ q => by rw [(CInv_facts q.2).2.2.2.1, cl]) (fun _ _ q v e => by rw [q.1] at e; cases e; rfl) (fun r9 G1 q => ?_)
  obtain ⟨rfl, hc1⟩ := q
  have cl1 := (CInv_facts hc1).2.2.2.1
  refine hR.run (ft := []) (ct := []) (oc := []) klw_back_ok xnof xnok xnoc [647, 656, 923] [] [] 60 ?_
  refine hS 656 _ _ _ _ (i + 1) (klw_back_ok.at 656 rfl) (nI_add i 1) (by omega) ?_
  refine hR.run (ft := []) (ct := []) (oc := []) klw_back_ok xnof xnok xnoc [647, 656, 923] [] [] 60 ?_
  refine hR.callQ (rest := [.int (zi (sp_back S (xs (i + 1)).toInt).1)]) (as := [.int (xs (i + 1))]) 59 cl1 (r_back l S Gr hr hI.2.1 (xs (i + 1))) yX11_back_ok lkL_73 ivX11_back slX11_back ⟨rfl, rfl, by decide, by decide⟩ (klw_back_ok.at 657 rfl) rfl rfl (xrs_ok rfl) r0 rfl rfl (fun _ _ q => by rw [(RInv_facts q.2).1, rl]) (fun _ _ q v e => by rw [q.1] at e; cases e; rfl) (fun r9 G2 q => ?_)
  obtain ⟨rfl, hr1⟩ := q
  refine hR.run (ft := []) (ct := []) (oc := []) klw_back_ok xnof xnok xnoc [647, 656, 923] [] [] 60 ?_
  exact ⟨fun _ => next _ _ _ hc1 hr1 (inv_back hI _), fun h => absurd rfl h⟩
def klw_image : List xI := [(665, .aload_n 1, 1), (666, .aload_n 0, 1), (667, .iload_n 3, 1), (668, .iconst 1, 1), (669, .iadd, 1), (670, .iaload, 1), (671, .aload_n 0, 1), (672, .iload_n 3, 1), (673, .iconst 2, 1), (674, .iadd, 1), (675, .iaload, 1), (676, .invokevirtual 74, 3), (679, .aload_n 2, 1), (680, .aload_n 0, 1), (681, .iload_n 3, 1), (682, .iconst 1, 1), (683, .iadd, 1), (684, .iaload, 1), (685, .aload_n 0, 1), (686, .iload_n 3, 1), (687, .iconst 2, 1), (688, .iadd, 1), (689, .iaload, 1), (690, .invokevirtual 77, 3), (693, .if_icmp .eq 230, 3), (696, .iconst 0, 1), (697, .ireturn, 1)]
theorem klw_image_ok : xsf cL_law klw_image := ⟨by decide +kernel, by decide +kernel⟩
set_option maxHeartbeats 4000000 in
set_option maxRecDepth 100000 in
theorem lw_image {l : Launch} {X : Nat → List (Option Value) → List Value → List xE → Prop} {xs : Nat → Int32} {L i : Nat} (hC : lwC l X xs L) (hi : i + 7 ≤ L) {S : SS} {G0 Gr : List xE} (hc : CInv S G0) (hr : RInv S Gr) (hI : InvS S) (next : ∀ S' G0' Gr', CInv S' G0' → RInv S' Gr' → InvS S' → X 923 [some (.ref 1000), some (.ref 0), some (.ref 59), some (.int (nI i))] [] (G0' ++ Gr'.map (xren (fun j => 59 + j)))) : X 665 [some (.ref 1000), some (.ref 0), some (.ref 59), some (.int (nI i))] [] (G0 ++ Gr.map (xren (fun j => 59 + j))) := by
  obtain ⟨hR, hS, -⟩ := hC
  have cf := CInv_facts hc
  obtain ⟨cl, fs, c0⟩ := cf.2.2.2
  obtain ⟨rl, fr, r0⟩ := RInv_facts hr
  refine hR.run (ft := []) (ct := []) (oc := []) klw_image_ok xnof xnok xnoc [670, 675, 684, 689, 923] [] [] 60 ?_
  refine hS 670 _ _ _ _ (i + 1) (klw_image_ok.at 670 rfl) (nI_add i 1) (by omega) ?_
  refine hR.run (ft := []) (ct := []) (oc := []) klw_image_ok xnof xnok xnoc [670, 675, 684, 689, 923] [] [] 60 ?_
  refine hS 675 _ _ _ _ (i + 2) (klw_image_ok.at 675 rfl) (nI_add i 2) (by omega) ?_
  refine hR.run (ft := []) (ct := []) (oc := []) klw_image_ok xnof xnok xnoc [670, 675, 684, 689, 923] [] [] 60 ?_
  refine hR.callP (rest := []) (as := [.int (xs (i + 1)), .int (xs (i + 2))]) (k_image l S G0 hc (inv_imgs hI) (xs (i + 1)) (xs (i + 2))) yX10_image_ok lkL_74 ivX10_image slX10_image ⟨rfl, rfl, by decide, by decide⟩ (klw_image_ok.at 676 rfl) rfl rfl (by decide) c0 rfl rfl (fun _ _ q => by rw [(CInv_facts q.2).2.2.2.1, cl]) (fun _ _ q v e => by rw [q.1] at e; cases e; rfl) (fun r9 G1 q => ?_)
  obtain ⟨rfl, hc1⟩ := q
  have cl1 := (CInv_facts hc1).2.2.2.1
  refine hR.run (ft := []) (ct := []) (oc := []) klw_image_ok xnof xnok xnoc [670, 675, 684, 689, 923] [] [] 60 ?_
  refine hS 684 _ _ _ _ (i + 1) (klw_image_ok.at 684 rfl) (nI_add i 1) (by omega) ?_
  refine hR.run (ft := []) (ct := []) (oc := []) klw_image_ok xnof xnok xnoc [670, 675, 684, 689, 923] [] [] 60 ?_
  refine hS 689 _ _ _ _ (i + 2) (klw_image_ok.at 689 rfl) (nI_add i 2) (by omega) ?_
  refine hR.run (ft := []) (ct := []) (oc := []) klw_image_ok xnof xnok xnoc [670, 675, 684, 689, 923] [] [] 60 ?_
  refine hR.callQ (rest := [.int (zi (sp_image S (xs (i + 1)).toInt (xs (i + 2)).toInt).1)]) (as := [.int (xs (i + 1)), .int (xs (i + 2))]) 59 cl1 (r_image l S Gr hr (inv_imgs hI) (xs (i + 1)) (xs (i + 2))) yX11_image_ok lkL_77 ivX11_image slX11_image ⟨rfl, rfl, by decide, by decide⟩ (klw_image_ok.at 690 rfl) rfl rfl (xrs_ok rfl) r0 rfl rfl (fun _ _ q => by rw [(RInv_facts q.2).1, rl]) (fun _ _ q v e => by rw [q.1] at e; cases e; rfl) (fun r9 G2 q => ?_)
  obtain ⟨rfl, hr1⟩ := q
  refine hR.run (ft := []) (ct := []) (oc := []) klw_image_ok xnof xnok xnoc [670, 675, 684, 689, 923] [] [] 60 ?_
  exact ⟨fun _ => next _ _ _ hc1 hr1 (inv_image hI _ _), fun h => absurd rfl h⟩
def klw_kind : List xI := [(698, .aload_n 1, 1), (699, .aload_n 0, 1), (700, .iload_n 3, 1), (701, .iconst 1, 1), (702, .iadd, 1), (703, .iaload, 1), (704, .invokevirtual 78, 3), (707, .aload_n 2, 1), (708, .aload_n 0, 1), (709, .iload_n 3, 1), (710, .iconst 1, 1), (711, .iadd, 1), (712, .iaload, 1), (713, .invokevirtual 81, 3), (716, .if_icmp .eq 207, 3), (719, .iconst 0, 1), (720, .ireturn, 1)]
theorem klw_kind_ok : xsf cL_law klw_kind := ⟨by decide +kernel, by decide +kernel⟩
set_option maxHeartbeats 4000000 in
set_option maxRecDepth 100000 in
theorem lw_kind {l : Launch} {X : Nat → List (Option Value) → List Value → List xE → Prop} {xs : Nat → Int32} {L i : Nat} (hC : lwC l X xs L) (hi : i + 7 ≤ L) {S : SS} {G0 Gr : List xE} (hc : CInv S G0) (hr : RInv S Gr) (hI : InvS S) (next : ∀ S' G0' Gr', CInv S' G0' → RInv S' Gr' → InvS S' → X 923 [some (.ref 1000), some (.ref 0), some (.ref 59), some (.int (nI i))] [] (G0' ++ Gr'.map (xren (fun j => 59 + j)))) : X 698 [some (.ref 1000), some (.ref 0), some (.ref 59), some (.int (nI i))] [] (G0 ++ Gr.map (xren (fun j => 59 + j))) := by
  obtain ⟨hR, hS, -⟩ := hC
  have cf := CInv_facts hc
  obtain ⟨cl, fs, c0⟩ := cf.2.2.2
  obtain ⟨rl, fr, r0⟩ := RInv_facts hr
  refine hR.run (ft := []) (ct := []) (oc := []) klw_kind_ok xnof xnok xnoc [703, 712, 923] [] [] 60 ?_
  refine hS 703 _ _ _ _ (i + 1) (klw_kind_ok.at 703 rfl) (nI_add i 1) (by omega) ?_
  refine hR.run (ft := []) (ct := []) (oc := []) klw_kind_ok xnof xnok xnoc [703, 712, 923] [] [] 60 ?_
  refine hR.callP (rest := []) (as := [.int (xs (i + 1))]) (k_kind l S G0 hc  (xs (i + 1))) yX10_kind_ok lkL_78 ivX10_kind slX10_kind ⟨rfl, rfl, by decide, by decide⟩ (klw_kind_ok.at 704 rfl) rfl rfl (by decide) c0 rfl rfl (fun _ _ q => by rw [(CInv_facts q.2).2.2.2.1, cl]) (fun _ _ q v e => by rw [q.1] at e; cases e; rfl) (fun r9 G1 q => ?_)
  obtain ⟨rfl, hc1⟩ := q
  rw [kind_eq cf.1]
  have cl1 := (CInv_facts hc1).2.2.2.1
  refine hR.run (ft := []) (ct := []) (oc := []) klw_kind_ok xnof xnok xnoc [703, 712, 923] [] [] 60 ?_
  refine hS 712 _ _ _ _ (i + 1) (klw_kind_ok.at 712 rfl) (nI_add i 1) (by omega) ?_
  refine hR.run (ft := []) (ct := []) (oc := []) klw_kind_ok xnof xnok xnoc [703, 712, 923] [] [] 60 ?_
  refine hR.callQ (rest := [.int (zi (sp_kind S (xs (i + 1)).toInt))]) (as := [.int (xs (i + 1))]) 59 cl1 (r_kind l S Gr hr  (xs (i + 1))) yX11_kind_ok lkL_81 ivX11_kind slX11_kind ⟨rfl, rfl, by decide, by decide⟩ (klw_kind_ok.at 713 rfl) rfl rfl (xrs_ok rfl) r0 rfl rfl (fun _ _ q => by rw [(RInv_facts q.2).1, rl]) (fun _ _ q v e => by rw [q.1] at e; cases e; rfl) (fun r9 G2 q => ?_)
  obtain ⟨rfl, hr1⟩ := q
  refine hR.run (ft := []) (ct := []) (oc := []) klw_kind_ok xnof xnok xnoc [703, 712, 923] [] [] 60 ?_
  exact ⟨fun _ => next _ _ _ hc1 hr1 hI, fun h => absurd rfl h⟩
def klw_own : List xI := [(721, .aload_n 1, 1), (722, .aload_n 0, 1), (723, .iload_n 3, 1), (724, .iconst 1, 1), (725, .iadd, 1), (726, .iaload, 1), (727, .aload_n 0, 1), (728, .iload_n 3, 1), (729, .iconst 2, 1), (730, .iadd, 1), (731, .iaload, 1), (732, .invokevirtual 82, 3), (735, .aload_n 2, 1), (736, .aload_n 0, 1), (737, .iload_n 3, 1), (738, .iconst 1, 1), (739, .iadd, 1), (740, .iaload, 1), (741, .aload_n 0, 1), (742, .iload_n 3, 1), (743, .iconst 2, 1), (744, .iadd, 1), (745, .iaload, 1), (746, .invokevirtual 86, 3), (749, .lcmp, 1), (750, .ifCond .eq 173, 3), (753, .iconst 0, 1), (754, .ireturn, 1)]
theorem klw_own_ok : xsf cL_law klw_own := ⟨by decide +kernel, by decide +kernel⟩
set_option maxHeartbeats 4000000 in
set_option maxRecDepth 100000 in
theorem lw_own {l : Launch} {X : Nat → List (Option Value) → List Value → List xE → Prop} {xs : Nat → Int32} {L i : Nat} (hC : lwC l X xs L) (hi : i + 7 ≤ L) {S : SS} {G0 Gr : List xE} (hc : CInv S G0) (hr : RInv S Gr) (hI : InvS S) (next : ∀ S' G0' Gr', CInv S' G0' → RInv S' Gr' → InvS S' → X 923 [some (.ref 1000), some (.ref 0), some (.ref 59), some (.int (nI i))] [] (G0' ++ Gr'.map (xren (fun j => 59 + j)))) : X 721 [some (.ref 1000), some (.ref 0), some (.ref 59), some (.int (nI i))] [] (G0 ++ Gr.map (xren (fun j => 59 + j))) := by
  obtain ⟨hR, hS, -⟩ := hC
  have cf := CInv_facts hc
  obtain ⟨cl, fs, c0⟩ := cf.2.2.2
  obtain ⟨rl, fr, r0⟩ := RInv_facts hr
  refine hR.run (ft := []) (ct := []) (oc := []) klw_own_ok xnof xnok xnoc [726, 731, 740, 745, 923] [] [] 60 ?_
  refine hS 726 _ _ _ _ (i + 1) (klw_own_ok.at 726 rfl) (nI_add i 1) (by omega) ?_
  refine hR.run (ft := []) (ct := []) (oc := []) klw_own_ok xnof xnok xnoc [726, 731, 740, 745, 923] [] [] 60 ?_
  refine hS 731 _ _ _ _ (i + 2) (klw_own_ok.at 731 rfl) (nI_add i 2) (by omega) ?_
  refine hR.run (ft := []) (ct := []) (oc := []) klw_own_ok xnof xnok xnoc [726, 731, 740, 745, 923] [] [] 60 ?_
  refine hR.callP (rest := []) (as := [.int (xs (i + 1)), .int (xs (i + 2))]) (k_own l S G0 hc  (xs (i + 1)) (xs (i + 2))) yX10_own_ok lkL_82 ivX10_own slX10_own ⟨rfl, rfl, by decide, by decide⟩ (klw_own_ok.at 732 rfl) rfl rfl (by decide) c0 rfl rfl (fun _ _ q => by rw [(CInv_facts q.2).2.2.2.1, cl]) (fun _ _ q v e => by rw [q.1] at e; cases e; rfl) (fun r9 G1 q => ?_)
  obtain ⟨rfl, hc1⟩ := q
  rw [own_eq cf.1]
  have cl1 := (CInv_facts hc1).2.2.2.1
  refine hR.run (ft := []) (ct := []) (oc := []) klw_own_ok xnof xnok xnoc [726, 731, 740, 745, 923] [] [] 60 ?_
  refine hS 740 _ _ _ _ (i + 1) (klw_own_ok.at 740 rfl) (nI_add i 1) (by omega) ?_
  refine hR.run (ft := []) (ct := []) (oc := []) klw_own_ok xnof xnok xnoc [726, 731, 740, 745, 923] [] [] 60 ?_
  refine hS 745 _ _ _ _ (i + 2) (klw_own_ok.at 745 rfl) (nI_add i 2) (by omega) ?_
  refine hR.run (ft := []) (ct := []) (oc := []) klw_own_ok xnof xnok xnoc [726, 731, 740, 745, 923] [] [] 60 ?_
  refine hR.callQ (rest := [.long (zl (sp_own S (xs (i + 1)).toInt (xs (i + 2)).toInt))]) (as := [.int (xs (i + 1)), .int (xs (i + 2))]) 59 cl1 (r_own l S Gr hr  (xs (i + 1)) (xs (i + 2))) yX11_own_ok lkL_86 ivX11_own slX11_own ⟨rfl, rfl, by decide, by decide⟩ (klw_own_ok.at 746 rfl) rfl rfl (xrs_ok rfl) r0 rfl rfl (fun _ _ q => by rw [(RInv_facts q.2).1, rl]) (fun _ _ q v e => by rw [q.1] at e; cases e; rfl) (fun r9 G2 q => ?_)
  obtain ⟨rfl, hr1⟩ := q
  refine hR.run (ft := []) (ct := []) (oc := []) klw_own_ok xnof xnok xnoc [726, 731, 740, 745, 923] [] [] 60 ?_
  exact ⟨fun _ => next _ _ _ hc1 hr1 hI, fun h => absurd (lgc_eq.mpr rfl) h⟩
def klw_fixed : List xI := [(755, .aload_n 1, 1), (756, .aload_n 0, 1), (757, .iload_n 3, 1), (758, .iconst 1, 1), (759, .iadd, 1), (760, .iaload, 1), (761, .aload_n 0, 1), (762, .iload_n 3, 1), (763, .iconst 2, 1), (764, .iadd, 1), (765, .iaload, 1), (766, .invokevirtual 87, 3), (769, .aload_n 2, 1), (770, .aload_n 0, 1), (771, .iload_n 3, 1), (772, .iconst 1, 1), (773, .iadd, 1), (774, .iaload, 1), (775, .aload_n 0, 1), (776, .iload_n 3, 1), (777, .iconst 2, 1), (778, .iadd, 1), (779, .iaload, 1), (780, .invokevirtual 90, 3), (783, .if_icmp .eq 140, 3), (786, .iconst 0, 1), (787, .ireturn, 1)]
theorem klw_fixed_ok : xsf cL_law klw_fixed := ⟨by decide +kernel, by decide +kernel⟩
set_option maxHeartbeats 4000000 in
set_option maxRecDepth 100000 in
theorem lw_fixed {l : Launch} {X : Nat → List (Option Value) → List Value → List xE → Prop} {xs : Nat → Int32} {L i : Nat} (hC : lwC l X xs L) (hi : i + 7 ≤ L) {S : SS} {G0 Gr : List xE} (hc : CInv S G0) (hr : RInv S Gr) (hI : InvS S) (next : ∀ S' G0' Gr', CInv S' G0' → RInv S' Gr' → InvS S' → X 923 [some (.ref 1000), some (.ref 0), some (.ref 59), some (.int (nI i))] [] (G0' ++ Gr'.map (xren (fun j => 59 + j)))) : X 755 [some (.ref 1000), some (.ref 0), some (.ref 59), some (.int (nI i))] [] (G0 ++ Gr.map (xren (fun j => 59 + j))) := by
  obtain ⟨hR, hS, -⟩ := hC
  have cf := CInv_facts hc
  obtain ⟨cl, fs, c0⟩ := cf.2.2.2
  obtain ⟨rl, fr, r0⟩ := RInv_facts hr
  refine hR.run (ft := []) (ct := []) (oc := []) klw_fixed_ok xnof xnok xnoc [760, 765, 774, 779, 923] [] [] 60 ?_
  refine hS 760 _ _ _ _ (i + 1) (klw_fixed_ok.at 760 rfl) (nI_add i 1) (by omega) ?_
  refine hR.run (ft := []) (ct := []) (oc := []) klw_fixed_ok xnof xnok xnoc [760, 765, 774, 779, 923] [] [] 60 ?_
  refine hS 765 _ _ _ _ (i + 2) (klw_fixed_ok.at 765 rfl) (nI_add i 2) (by omega) ?_
  refine hR.run (ft := []) (ct := []) (oc := []) klw_fixed_ok xnof xnok xnoc [760, 765, 774, 779, 923] [] [] 60 ?_
  refine hR.callP (rest := []) (as := [.int (xs (i + 1)), .int (xs (i + 2))]) (k_fixed l S G0 hc  (xs (i + 1)) (xs (i + 2))) yX10_fixed_ok lkL_87 ivX10_fixed slX10_fixed ⟨rfl, rfl, by decide, by decide⟩ (klw_fixed_ok.at 766 rfl) rfl rfl (by decide) c0 rfl rfl (fun _ _ q => by rw [(CInv_facts q.2).2.2.2.1, cl]) (fun _ _ q v e => by rw [q.1] at e; cases e; rfl) (fun r9 G1 q => ?_)
  obtain ⟨rfl, hc1⟩ := q
  rw [fixed_eq cf.1] at hc1 ⊢
  have cl1 := (CInv_facts hc1).2.2.2.1
  refine hR.run (ft := []) (ct := []) (oc := []) klw_fixed_ok xnof xnok xnoc [760, 765, 774, 779, 923] [] [] 60 ?_
  refine hS 774 _ _ _ _ (i + 1) (klw_fixed_ok.at 774 rfl) (nI_add i 1) (by omega) ?_
  refine hR.run (ft := []) (ct := []) (oc := []) klw_fixed_ok xnof xnok xnoc [760, 765, 774, 779, 923] [] [] 60 ?_
  refine hS 779 _ _ _ _ (i + 2) (klw_fixed_ok.at 779 rfl) (nI_add i 2) (by omega) ?_
  refine hR.run (ft := []) (ct := []) (oc := []) klw_fixed_ok xnof xnok xnoc [760, 765, 774, 779, 923] [] [] 60 ?_
  refine hR.callQ (rest := [.int (zi (sp_fixed S (xs (i + 1)).toInt (xs (i + 2)).toInt).1)]) (as := [.int (xs (i + 1)), .int (xs (i + 2))]) 59 cl1 (r_fixed l S Gr hr  (xs (i + 1)) (xs (i + 2))) yX11_fixed_ok lkL_90 ivX11_fixed slX11_fixed ⟨rfl, rfl, by decide, by decide⟩ (klw_fixed_ok.at 780 rfl) rfl rfl (xrs_ok rfl) r0 rfl rfl (fun _ _ q => by rw [(RInv_facts q.2).1, rl]) (fun _ _ q v e => by rw [q.1] at e; cases e; rfl) (fun r9 G2 q => ?_)
  obtain ⟨rfl, hr1⟩ := q
  refine hR.run (ft := []) (ct := []) (oc := []) klw_fixed_ok xnof xnok xnoc [760, 765, 774, 779, 923] [] [] 60 ?_
  exact ⟨fun _ => next _ _ _ hc1 hr1 (inv_fixed hI _ _), fun h => absurd rfl h⟩
def klw_order : List xI := [(788, .aload_n 1, 1), (789, .aload_n 0, 1), (790, .iload_n 3, 1), (791, .iconst 1, 1), (792, .iadd, 1), (793, .iaload, 1), (794, .aload_n 0, 1), (795, .iload_n 3, 1), (796, .iconst 2, 1), (797, .iadd, 1), (798, .iaload, 1), (799, .invokevirtual 91, 3), (802, .aload_n 2, 1), (803, .aload_n 0, 1), (804, .iload_n 3, 1), (805, .iconst 1, 1), (806, .iadd, 1), (807, .iaload, 1), (808, .aload_n 0, 1), (809, .iload_n 3, 1), (810, .iconst 2, 1), (811, .iadd, 1), (812, .iaload, 1), (813, .invokevirtual 94, 3), (816, .if_icmp .eq 107, 3), (819, .iconst 0, 1), (820, .ireturn, 1)]
theorem klw_order_ok : xsf cL_law klw_order := ⟨by decide +kernel, by decide +kernel⟩
set_option maxHeartbeats 4000000 in
set_option maxRecDepth 100000 in
theorem lw_order {l : Launch} {X : Nat → List (Option Value) → List Value → List xE → Prop} {xs : Nat → Int32} {L i : Nat} (hC : lwC l X xs L) (hi : i + 7 ≤ L) {S : SS} {G0 Gr : List xE} (hc : CInv S G0) (hr : RInv S Gr) (hI : InvS S) (next : ∀ S' G0' Gr', CInv S' G0' → RInv S' Gr' → InvS S' → X 923 [some (.ref 1000), some (.ref 0), some (.ref 59), some (.int (nI i))] [] (G0' ++ Gr'.map (xren (fun j => 59 + j)))) : X 788 [some (.ref 1000), some (.ref 0), some (.ref 59), some (.int (nI i))] [] (G0 ++ Gr.map (xren (fun j => 59 + j))) := by
  obtain ⟨hR, hS, -⟩ := hC
  have cf := CInv_facts hc
  obtain ⟨cl, fs, c0⟩ := cf.2.2.2
  obtain ⟨rl, fr, r0⟩ := RInv_facts hr
  refine hR.run (ft := []) (ct := []) (oc := []) klw_order_ok xnof xnok xnoc [793, 798, 807, 812, 923] [] [] 60 ?_
  refine hS 793 _ _ _ _ (i + 1) (klw_order_ok.at 793 rfl) (nI_add i 1) (by omega) ?_
  refine hR.run (ft := []) (ct := []) (oc := []) klw_order_ok xnof xnok xnoc [793, 798, 807, 812, 923] [] [] 60 ?_
  refine hS 798 _ _ _ _ (i + 2) (klw_order_ok.at 798 rfl) (nI_add i 2) (by omega) ?_
  refine hR.run (ft := []) (ct := []) (oc := []) klw_order_ok xnof xnok xnoc [793, 798, 807, 812, 923] [] [] 60 ?_
  refine hR.callP (rest := []) (as := [.int (xs (i + 1)), .int (xs (i + 2))]) (k_order l S G0 hc hI.2.1 (xs (i + 1)) (xs (i + 2))) yX10_order_ok lkL_91 ivX10_order slX10_order ⟨rfl, rfl, by decide, by decide⟩ (klw_order_ok.at 799 rfl) rfl rfl (by decide) c0 rfl rfl (fun _ _ q => by rw [(CInv_facts q.2).2.2.2.1, cl]) (fun _ _ q v e => by rw [q.1] at e; cases e; rfl) (fun r9 G1 q => ?_)
  obtain ⟨rfl, hc1⟩ := q
  have cl1 := (CInv_facts hc1).2.2.2.1
  refine hR.run (ft := []) (ct := []) (oc := []) klw_order_ok xnof xnok xnoc [793, 798, 807, 812, 923] [] [] 60 ?_
  refine hS 807 _ _ _ _ (i + 1) (klw_order_ok.at 807 rfl) (nI_add i 1) (by omega) ?_
  refine hR.run (ft := []) (ct := []) (oc := []) klw_order_ok xnof xnok xnoc [793, 798, 807, 812, 923] [] [] 60 ?_
  refine hS 812 _ _ _ _ (i + 2) (klw_order_ok.at 812 rfl) (nI_add i 2) (by omega) ?_
  refine hR.run (ft := []) (ct := []) (oc := []) klw_order_ok xnof xnok xnoc [793, 798, 807, 812, 923] [] [] 60 ?_
  refine hR.callQ (rest := [.int (zi (sp_order S (xs (i + 1)).toInt (xs (i + 2)).toInt))]) (as := [.int (xs (i + 1)), .int (xs (i + 2))]) 59 cl1 (r_order l S Gr hr hI.2.1 (xs (i + 1)) (xs (i + 2))) yX11_order_ok lkL_94 ivX11_order slX11_order ⟨rfl, rfl, by decide, by decide⟩ (klw_order_ok.at 813 rfl) rfl rfl (xrs_ok rfl) r0 rfl rfl (fun _ _ q => by rw [(RInv_facts q.2).1, rl]) (fun _ _ q v e => by rw [q.1] at e; cases e; rfl) (fun r9 G2 q => ?_)
  obtain ⟨rfl, hr1⟩ := q
  refine hR.run (ft := []) (ct := []) (oc := []) klw_order_ok xnof xnok xnoc [793, 798, 807, 812, 923] [] [] 60 ?_
  exact ⟨fun _ => next _ _ _ hc1 hr1 hI, fun h => absurd rfl h⟩
def klw_seed : List xI := [(821, .aload_n 1, 1), (822, .aload_n 0, 1), (823, .iload_n 3, 1), (824, .iconst 1, 1), (825, .iadd, 1), (826, .iaload, 1), (827, .invokevirtual 95, 3), (830, .aload_n 2, 1), (831, .aload_n 0, 1), (832, .iload_n 3, 1), (833, .iconst 1, 1), (834, .iadd, 1), (835, .iaload, 1), (836, .invokevirtual 98, 3), (839, .if_icmp .eq 84, 3), (842, .iconst 0, 1), (843, .ireturn, 1)]
theorem klw_seed_ok : xsf cL_law klw_seed := ⟨by decide +kernel, by decide +kernel⟩
set_option maxHeartbeats 4000000 in
set_option maxRecDepth 100000 in
theorem lw_seed {l : Launch} {X : Nat → List (Option Value) → List Value → List xE → Prop} {xs : Nat → Int32} {L i : Nat} (hC : lwC l X xs L) (hi : i + 7 ≤ L) {S : SS} {G0 Gr : List xE} (hc : CInv S G0) (hr : RInv S Gr) (hI : InvS S) (next : ∀ S' G0' Gr', CInv S' G0' → RInv S' Gr' → InvS S' → X 923 [some (.ref 1000), some (.ref 0), some (.ref 59), some (.int (nI i))] [] (G0' ++ Gr'.map (xren (fun j => 59 + j)))) : X 821 [some (.ref 1000), some (.ref 0), some (.ref 59), some (.int (nI i))] [] (G0 ++ Gr.map (xren (fun j => 59 + j))) := by
  obtain ⟨hR, hS, -⟩ := hC
  have cf := CInv_facts hc
  obtain ⟨cl, fs, c0⟩ := cf.2.2.2
  obtain ⟨rl, fr, r0⟩ := RInv_facts hr
  refine hR.run (ft := []) (ct := []) (oc := []) klw_seed_ok xnof xnok xnoc [826, 835, 923] [] [] 60 ?_
  refine hS 826 _ _ _ _ (i + 1) (klw_seed_ok.at 826 rfl) (nI_add i 1) (by omega) ?_
  refine hR.run (ft := []) (ct := []) (oc := []) klw_seed_ok xnof xnok xnoc [826, 835, 923] [] [] 60 ?_
  refine hR.callP (rest := []) (as := [.int (xs (i + 1))]) (k_seed l S G0 hc  (xs (i + 1))) yX10_seed_ok lkL_95 ivX10_seed slX10_seed ⟨rfl, rfl, by decide, by decide⟩ (klw_seed_ok.at 827 rfl) rfl rfl (by decide) c0 rfl rfl (fun _ _ q => by rw [(CInv_facts q.2).2.2.2.1, cl]) (fun _ _ q v e => by rw [q.1] at e; cases e; rfl) (fun r9 G1 q => ?_)
  obtain ⟨rfl, hc1⟩ := q
  have cl1 := (CInv_facts hc1).2.2.2.1
  refine hR.run (ft := []) (ct := []) (oc := []) klw_seed_ok xnof xnok xnoc [826, 835, 923] [] [] 60 ?_
  refine hS 835 _ _ _ _ (i + 1) (klw_seed_ok.at 835 rfl) (nI_add i 1) (by omega) ?_
  refine hR.run (ft := []) (ct := []) (oc := []) klw_seed_ok xnof xnok xnoc [826, 835, 923] [] [] 60 ?_
  refine hR.callQ (rest := [.int (zi (sp_seed S (xs (i + 1)).toInt).1)]) (as := [.int (xs (i + 1))]) 59 cl1 (r_seed l S Gr hr  (xs (i + 1))) yX11_seed_ok lkL_98 ivX11_seed slX11_seed ⟨rfl, rfl, by decide, by decide⟩ (klw_seed_ok.at 836 rfl) rfl rfl (xrs_ok rfl) r0 rfl rfl (fun _ _ q => by rw [(RInv_facts q.2).1, rl]) (fun _ _ q v e => by rw [q.1] at e; cases e; rfl) (fun r9 G2 q => ?_)
  obtain ⟨rfl, hr1⟩ := q
  refine hR.run (ft := []) (ct := []) (oc := []) klw_seed_ok xnof xnok xnoc [826, 835, 923] [] [] 60 ?_
  exact ⟨fun _ => next _ _ _ hc1 hr1 (inv_seed hI _), fun h => absurd rfl h⟩
def klw_group : List xI := [(844, .aload_n 1, 1), (845, .aload_n 0, 1), (846, .iload_n 3, 1), (847, .iconst 1, 1), (848, .iadd, 1), (849, .iaload, 1), (850, .invokevirtual 99, 3), (853, .aload_n 2, 1), (854, .aload_n 0, 1), (855, .iload_n 3, 1), (856, .iconst 1, 1), (857, .iadd, 1), (858, .iaload, 1), (859, .invokevirtual 102, 3), (862, .if_icmp .eq 61, 3), (865, .iconst 0, 1), (866, .ireturn, 1)]
theorem klw_group_ok : xsf cL_law klw_group := ⟨by decide +kernel, by decide +kernel⟩
set_option maxHeartbeats 4000000 in
set_option maxRecDepth 100000 in
theorem lw_group {l : Launch} {X : Nat → List (Option Value) → List Value → List xE → Prop} {xs : Nat → Int32} {L i : Nat} (hC : lwC l X xs L) (hi : i + 7 ≤ L) {S : SS} {G0 Gr : List xE} (hc : CInv S G0) (hr : RInv S Gr) (hI : InvS S) (next : ∀ S' G0' Gr', CInv S' G0' → RInv S' Gr' → InvS S' → X 923 [some (.ref 1000), some (.ref 0), some (.ref 59), some (.int (nI i))] [] (G0' ++ Gr'.map (xren (fun j => 59 + j)))) : X 844 [some (.ref 1000), some (.ref 0), some (.ref 59), some (.int (nI i))] [] (G0 ++ Gr.map (xren (fun j => 59 + j))) := by
  obtain ⟨hR, hS, -⟩ := hC
  have cf := CInv_facts hc
  obtain ⟨cl, fs, c0⟩ := cf.2.2.2
  obtain ⟨rl, fr, r0⟩ := RInv_facts hr
  refine hR.run (ft := []) (ct := []) (oc := []) klw_group_ok xnof xnok xnoc [849, 858, 923] [] [] 60 ?_
  refine hS 849 _ _ _ _ (i + 1) (klw_group_ok.at 849 rfl) (nI_add i 1) (by omega) ?_
  refine hR.run (ft := []) (ct := []) (oc := []) klw_group_ok xnof xnok xnoc [849, 858, 923] [] [] 60 ?_
  refine hR.callP (rest := []) (as := [.int (xs (i + 1))]) (k_group l S G0 hc hI.2.1 hI.2.2 (xs (i + 1))) yX10_group_ok lkL_99 ivX10_group slX10_group ⟨rfl, rfl, by decide, by decide⟩ (klw_group_ok.at 850 rfl) rfl rfl (by decide) c0 rfl rfl (fun _ _ q => by rw [(CInv_facts q.2).2.2.2.1, cl]) (fun _ _ q v e => by rw [q.1] at e; cases e; rfl) (fun r9 G1 q => ?_)
  obtain ⟨rfl, hc1⟩ := q
  have cl1 := (CInv_facts hc1).2.2.2.1
  refine hR.run (ft := []) (ct := []) (oc := []) klw_group_ok xnof xnok xnoc [849, 858, 923] [] [] 60 ?_
  refine hS 858 _ _ _ _ (i + 1) (klw_group_ok.at 858 rfl) (nI_add i 1) (by omega) ?_
  refine hR.run (ft := []) (ct := []) (oc := []) klw_group_ok xnof xnok xnoc [849, 858, 923] [] [] 60 ?_
  refine hR.callQ (rest := [.int (zi (sp_group S (xs (i + 1)).toInt).1)]) (as := [.int (xs (i + 1))]) 59 cl1 (r_group l S Gr hr hI.2.1 (inv_gd hI) (xs (i + 1))) yX11_group_ok lkL_102 ivX11_group slX11_group ⟨rfl, rfl, by decide, by decide⟩ (klw_group_ok.at 859 rfl) rfl rfl (xrs_ok rfl) r0 rfl rfl (fun _ _ q => by rw [(RInv_facts q.2).1, rl]) (fun _ _ q v e => by rw [q.1] at e; cases e; rfl) (fun r9 G2 q => ?_)
  obtain ⟨rfl, hr1⟩ := q
  refine hR.run (ft := []) (ct := []) (oc := []) klw_group_ok xnof xnok xnoc [849, 858, 923] [] [] 60 ?_
  exact ⟨fun _ => next _ _ _ hc1 hr1 (inv_group hI _), fun h => absurd rfl h⟩
def klw_element : List xI := [(867, .aload_n 1, 1), (868, .aload_n 0, 1), (869, .iload_n 3, 1), (870, .iconst 1, 1), (871, .iadd, 1), (872, .iaload, 1), (873, .aload_n 0, 1), (874, .iload_n 3, 1), (875, .iconst 2, 1), (876, .iadd, 1), (877, .iaload, 1), (878, .invokevirtual 103, 3), (881, .aload_n 2, 1), (882, .aload_n 0, 1), (883, .iload_n 3, 1), (884, .iconst 1, 1), (885, .iadd, 1), (886, .iaload, 1), (887, .aload_n 0, 1), (888, .iload_n 3, 1), (889, .iconst 2, 1), (890, .iadd, 1), (891, .iaload, 1), (892, .invokevirtual 106, 3), (895, .if_icmp .eq 28, 3), (898, .iconst 0, 1), (899, .ireturn, 1)]
theorem klw_element_ok : xsf cL_law klw_element := ⟨by decide +kernel, by decide +kernel⟩
set_option maxHeartbeats 4000000 in
set_option maxRecDepth 100000 in
theorem lw_element {l : Launch} {X : Nat → List (Option Value) → List Value → List xE → Prop} {xs : Nat → Int32} {L i : Nat} (hC : lwC l X xs L) (hi : i + 7 ≤ L) {S : SS} {G0 Gr : List xE} (hc : CInv S G0) (hr : RInv S Gr) (hI : InvS S) (next : ∀ S' G0' Gr', CInv S' G0' → RInv S' Gr' → InvS S' → X 923 [some (.ref 1000), some (.ref 0), some (.ref 59), some (.int (nI i))] [] (G0' ++ Gr'.map (xren (fun j => 59 + j)))) : X 867 [some (.ref 1000), some (.ref 0), some (.ref 59), some (.int (nI i))] [] (G0 ++ Gr.map (xren (fun j => 59 + j))) := by
  obtain ⟨hR, hS, -⟩ := hC
  have cf := CInv_facts hc
  obtain ⟨cl, fs, c0⟩ := cf.2.2.2
  obtain ⟨rl, fr, r0⟩ := RInv_facts hr
  refine hR.run (ft := []) (ct := []) (oc := []) klw_element_ok xnof xnok xnoc [872, 877, 886, 891, 923] [] [] 60 ?_
  refine hS 872 _ _ _ _ (i + 1) (klw_element_ok.at 872 rfl) (nI_add i 1) (by omega) ?_
  refine hR.run (ft := []) (ct := []) (oc := []) klw_element_ok xnof xnok xnoc [872, 877, 886, 891, 923] [] [] 60 ?_
  refine hS 877 _ _ _ _ (i + 2) (klw_element_ok.at 877 rfl) (nI_add i 2) (by omega) ?_
  refine hR.run (ft := []) (ct := []) (oc := []) klw_element_ok xnof xnok xnoc [872, 877, 886, 891, 923] [] [] 60 ?_
  refine hR.callP (rest := []) (as := [.int (xs (i + 1)), .int (xs (i + 2))]) (k_element l S G0 hc  (xs (i + 1)) (xs (i + 2))) yX10_element_ok lkL_103 ivX10_element slX10_element ⟨rfl, rfl, by decide, by decide⟩ (klw_element_ok.at 878 rfl) rfl rfl (by decide) c0 rfl rfl (fun _ _ q => by rw [(CInv_facts q.2).2.2.2.1, cl]) (fun _ _ q v e => by rw [q.1] at e; cases e; rfl) (fun r9 G1 q => ?_)
  obtain ⟨rfl, hc1⟩ := q
  have cl1 := (CInv_facts hc1).2.2.2.1
  refine hR.run (ft := []) (ct := []) (oc := []) klw_element_ok xnof xnok xnoc [872, 877, 886, 891, 923] [] [] 60 ?_
  refine hS 886 _ _ _ _ (i + 1) (klw_element_ok.at 886 rfl) (nI_add i 1) (by omega) ?_
  refine hR.run (ft := []) (ct := []) (oc := []) klw_element_ok xnof xnok xnoc [872, 877, 886, 891, 923] [] [] 60 ?_
  refine hS 891 _ _ _ _ (i + 2) (klw_element_ok.at 891 rfl) (nI_add i 2) (by omega) ?_
  refine hR.run (ft := []) (ct := []) (oc := []) klw_element_ok xnof xnok xnoc [872, 877, 886, 891, 923] [] [] 60 ?_
  refine hR.callQ (rest := [.int (zi (sp_element S (xs (i + 1)).toInt (xs (i + 2)).toInt))]) (as := [.int (xs (i + 1)), .int (xs (i + 2))]) 59 cl1 (r_element l S Gr hr  (xs (i + 1)) (xs (i + 2))) yX11_element_ok lkL_106 ivX11_element slX11_element ⟨rfl, rfl, by decide, by decide⟩ (klw_element_ok.at 892 rfl) rfl rfl (xrs_ok rfl) r0 rfl rfl (fun _ _ q => by rw [(RInv_facts q.2).1, rl]) (fun _ _ q v e => by rw [q.1] at e; cases e; rfl) (fun r9 G2 q => ?_)
  obtain ⟨rfl, hr1⟩ := q
  refine hR.run (ft := []) (ct := []) (oc := []) klw_element_ok xnof xnok xnoc [872, 877, 886, 891, 923] [] [] 60 ?_
  exact ⟨fun _ => next _ _ _ hc1 hr1 hI, fun h => absurd rfl h⟩
def klw_among : List xI := [(900, .aload_n 1, 1), (901, .aload_n 0, 1), (902, .iload_n 3, 1), (903, .iconst 1, 1), (904, .iadd, 1), (905, .iaload, 1), (906, .invokevirtual 107, 3), (909, .aload_n 2, 1), (910, .aload_n 0, 1), (911, .iload_n 3, 1), (912, .iconst 1, 1), (913, .iadd, 1), (914, .iaload, 1), (915, .invokevirtual 110, 3), (918, .if_icmp .eq 5, 3), (921, .iconst 0, 1), (922, .ireturn, 1)]
theorem klw_among_ok : xsf cL_law klw_among := ⟨by decide +kernel, by decide +kernel⟩
set_option maxHeartbeats 4000000 in
set_option maxRecDepth 100000 in
theorem lw_among {l : Launch} {X : Nat → List (Option Value) → List Value → List xE → Prop} {xs : Nat → Int32} {L i : Nat} (hC : lwC l X xs L) (hi : i + 7 ≤ L) {S : SS} {G0 Gr : List xE} (hc : CInv S G0) (hr : RInv S Gr) (hI : InvS S) (next : ∀ S' G0' Gr', CInv S' G0' → RInv S' Gr' → InvS S' → X 923 [some (.ref 1000), some (.ref 0), some (.ref 59), some (.int (nI i))] [] (G0' ++ Gr'.map (xren (fun j => 59 + j)))) : X 900 [some (.ref 1000), some (.ref 0), some (.ref 59), some (.int (nI i))] [] (G0 ++ Gr.map (xren (fun j => 59 + j))) := by
  obtain ⟨hR, hS, -⟩ := hC
  have cf := CInv_facts hc
  obtain ⟨cl, fs, c0⟩ := cf.2.2.2
  obtain ⟨rl, fr, r0⟩ := RInv_facts hr
  refine hR.run (ft := []) (ct := []) (oc := []) klw_among_ok xnof xnok xnoc [905, 914, 923] [] [] 60 ?_
  refine hS 905 _ _ _ _ (i + 1) (klw_among_ok.at 905 rfl) (nI_add i 1) (by omega) ?_
  refine hR.run (ft := []) (ct := []) (oc := []) klw_among_ok xnof xnok xnoc [905, 914, 923] [] [] 60 ?_
  refine hR.callP (rest := []) (as := [.int (xs (i + 1))]) (k_among l S G0 hc  (xs (i + 1))) yX10_among_ok lkL_107 ivX10_among slX10_among ⟨rfl, rfl, by decide, by decide⟩ (klw_among_ok.at 906 rfl) rfl rfl (by decide) c0 rfl rfl (fun _ _ q => by rw [(CInv_facts q.2).2.2.2.1, cl]) (fun _ _ q v e => by rw [q.1] at e; cases e; rfl) (fun r9 G1 q => ?_)
  obtain ⟨rfl, hc1⟩ := q
  have cl1 := (CInv_facts hc1).2.2.2.1
  refine hR.run (ft := []) (ct := []) (oc := []) klw_among_ok xnof xnok xnoc [905, 914, 923] [] [] 60 ?_
  refine hS 914 _ _ _ _ (i + 1) (klw_among_ok.at 914 rfl) (nI_add i 1) (by omega) ?_
  refine hR.run (ft := []) (ct := []) (oc := []) klw_among_ok xnof xnok xnoc [905, 914, 923] [] [] 60 ?_
  refine hR.callQ (rest := [.int (zi (sp_among S (xs (i + 1)).toInt))]) (as := [.int (xs (i + 1))]) 59 cl1 (r_among l S Gr hr  (xs (i + 1))) yX11_among_ok lkL_110 ivX11_among slX11_among ⟨rfl, rfl, by decide, by decide⟩ (klw_among_ok.at 915 rfl) rfl rfl (xrs_ok rfl) r0 rfl rfl (fun _ _ q => by rw [(RInv_facts q.2).1, rl]) (fun _ _ q v e => by rw [q.1] at e; cases e; rfl) (fun r9 G2 q => ?_)
  obtain ⟨rfl, hr1⟩ := q
  refine hR.run (ft := []) (ct := []) (oc := []) klw_among_ok xnof xnok xnoc [905, 914, 923] [] [] 60 ?_
  exact ⟨fun _ => next _ _ _ hc1 hr1 hI, fun h => absurd rfl h⟩
