set_option maxHeartbeats 4000000 in
set_option maxRecDepth 100000 in
theorem r_then (l : Launch) (S : SS) (G0 : List xE) (hG : RInv S G0) (hgood : goodM S.2.1) (a0 b0 : Int32) : xM l yX11_then cX11_then 3 (some .int) rX11_then [.ref 0, .int a0, .int b0] G0 (fun r G => r = some (.int (zi (sp_then S a0.toInt b0.toInt).1)) ∧ RInv (sp_then S a0.toInt b0.toInt).2 G) := by
  have hG9 := hG
  obtain ⟨pp, av, be, so, ro, tb, gv, sd, gr, row, table, one, two, rfl, hro, hrt, hrv, hrs, hrg, hr1⟩ := hG
  refine xM.of (by decide) (Nat.le_of_ble_eq_true rfl) (fun X hX => ?_)
  have hN := hro.1
  have hM := hrt.1
  have hoc := xoc1 (oIsMap_ok hX (by decide) hM) xnoc
  have im : ∀ k : Int32, isM S.2.1 k ↔ (0 ≤ k.toInt ∧ k.toInt < S.2.1.1) := fun k => isM_iff (by omega)
  have bad : ¬ ((0 ≤ a0.toInt ∧ a0.toInt < S.2.1.1) ∧ (0 ≤ b0.toInt ∧ b0.toInt < S.2.1.1)) → some (Value.int (Int32.ofInt (-1))) = some (Value.int (zi (sp_then S a0.toInt b0.toInt).1)) ∧ RInv (sp_then S a0.toInt b0.toInt).2 (GR (nI S.1.1) (nI S.2.1.1) (nI S.2.2.1.1) (nI S.2.2.2.1.1) (nI S.2.2.2.2.1) pp av be so ro tb gv sd gr row table one two) := by
    intro h
    have e : sp_then S a0.toInt b0.toInt = (-1, S) := by unfold sp_then; rw [if_neg h]
    rw [e]
    exact ⟨rfl, hG9⟩
  refine hX.run (oc := [(434, oIsMap S.2.1)]) kX11_then_ok ftX11_ok ctX11_ok hoc [18] [5, 13] [] 60 ?_
  refine ⟨rfl, fun h1 => ?_, fun h1 => bad (fun q => h1 ((im _).mpr q.1))⟩
  refine ⟨rfl, fun h2 => ?_, fun h2 => bad (fun q => h2 ((im _).mpr q.2))⟩
  have g1 := (im _).mp h1
  have g2 := (im _).mp h2
  obtain ⟨a, ha, ea⟩ := h1
  obtain ⟨b, hb, eb⟩ := h2
  subst ea eb
  have e1 : (nI a).toInt = (a : Int) := nI_toInt (by omega)
  have e2 : (nI b).toInt = (b : Int) := nI_toInt (by omega)
  have esp : sp_then S (nI a).toInt (nI b).toInt = withM (addM S.2.1 (mul9 (S.2.1.2 b) (S.2.1.2 a))) S := by
    unfold sp_then
    rw [if_pos ⟨g1, g2⟩, e1, e2]; rfl
  rw [esp] at hX
  refine hX.run (oc := [(434, oIsMap S.2.1)]) kX11_then_ok ftX11_ok ctX11_ok hoc [] [] [] 30 ?_
  refine hX.callV0 (rest := []) (c_bring_two l (nI S.1.1) (nI S.2.2.1.1) (nI S.2.2.2.1.1) (nI S.2.2.2.2.1) pp av be so ro tb gv sd gr row _ _ _ S.2.1 hrt a ha) yX11_bring_ok lkX11_220 ivX11_bring slX11_bring ⟨rfl, rfl, by decide, by decide⟩ (kX11_then_ok.at 24 rfl) rfl rfl (by decide) rfl rfl rfl (fun _ _ q => by rw [q.2]; rfl) (fun r9 G1 q => ?_)
  obtain ⟨rfl, rfl⟩ := q
  refine hX.run (oc := [(434, oIsMap S.2.1)]) kX11_then_ok ftX11_ok ctX11_ok hoc [] [] [] 30 ?_
  refine hX.callV0 (rest := []) (c_bring_one l (nI S.1.1) (nI S.2.2.1.1) (nI S.2.2.2.1.1) (nI S.2.2.2.2.1) pp av be so ro tb gv sd gr row _ _ _ S.2.1 hrt b hb) yX11_bring_ok lkX11_220 ivX11_bring slX11_bring ⟨rfl, rfl, by decide, by decide⟩ (kX11_then_ok.at 33 rfl) rfl rfl (by decide) rfl rfl rfl (fun _ _ q => by rw [q.2]; rfl) (fun r9 G1 q => ?_)
  obtain ⟨rfl, rfl⟩ := q
  refine hX.run (oc := [(434, oIsMap S.2.1)]) kX11_then_ok ftX11_ok ctX11_ok hoc [] [] [] 30 ?_
  refine hX.callS [9, 10, 8] [] (c_times l (S.2.1.2 b) (S.2.1.2 a) table) yX11_times_ok lkX11_128 ssX11_times ⟨rfl, rfl, by decide, by decide⟩ (kX11_then_ok.at 48 rfl) rfl rfl (by decide) ⟨rfl, rfl, rfl, trivial⟩ rfl (fun _ _ q => by rw [q.2]; rfl) (fun r9 G1 q => ?_)
  obtain ⟨rfl, rfl⟩ := q
  refine hX.run (oc := [(434, oIsMap S.2.1)]) kX11_then_ok ftX11_ok ctX11_ok hoc [] [] [] 30 ?_
  refine hX.callV0 (rest := []) (c_map l (nI S.1.1) (nI S.2.2.1.1) (nI S.2.2.2.1.1) (nI S.2.2.2.2.1) pp av be so ro tb gv sd gr row _ _ S.2.1 (mul9 (S.2.1.2 b) (S.2.1.2 a)) hrt (fun i hi => ab_jr (mul9_bd (fun i hi => hrt.bd hb hi) (fun i hi => hrt.bd ha hi) i hi) (by decide)) (det_ne (by rw [tdet]; exact Int.mul_ne_zero (hgood b hb) (hgood a ha)))) yX11_map_ok lkX11_190 ivX11_map slX11_map ⟨rfl, rfl, by decide, by decide⟩ (kX11_then_ok.at 52 rfl) rfl rfl (by decide) rfl rfl rfl (fun _ _ q => by obtain ⟨_, _, -, -, rfl⟩ := q; rfl) (fun r9 G1 q => ?_)
  obtain ⟨tb2, table2, rfl, q2, rfl⟩ := q
  refine hX.run (oc := [(434, oIsMap S.2.1)]) kX11_then_ok ftX11_ok ctX11_ok hoc [] [] [] 30 ?_
  exact ⟨rfl, pp, av, be, so, ro, tb2, gv, sd, gr, row, table2, _, _, rfl, hro, q2, hrv, hrs.more (addM_le _ _), hrg, hr1⟩
set_option maxHeartbeats 4000000 in
set_option maxRecDepth 100000 in
theorem r_back (l : Launch) (S : SS) (G0 : List xE) (hG : RInv S G0) (hgood : goodM S.2.1) (a0 : Int32) : xM l yX11_back cX11_back 2 (some .int) rX11_back [.ref 0, .int a0] G0 (fun r G => r = some (.int (zi (sp_back S a0.toInt).1)) ∧ RInv (sp_back S a0.toInt).2 G) := by
  have hG9 := hG
  obtain ⟨pp, av, be, so, ro, tb, gv, sd, gr, row, table, one, two, rfl, hro, hrt, hrv, hrs, hrg, hr1⟩ := hG
  refine xM.of (by decide) (Nat.le_of_ble_eq_true rfl) (fun X hX => ?_)
  have hN := hro.1
  have hM := hrt.1
  have hoc := xoc1 (oIsMap_ok hX (by decide) hM) xnoc
  have im : ∀ k : Int32, isM S.2.1 k ↔ (0 ≤ k.toInt ∧ k.toInt < S.2.1.1) := fun k => isM_iff (by omega)
  refine hX.run (oc := [(434, oIsMap S.2.1)]) kX11_back_ok ftX11_ok ctX11_ok hoc [10] [5] [] 60 ?_
  refine ⟨rfl, fun h1 => ?_, fun h1 => ?_⟩
  rotate_left
  · have e : sp_back S a0.toInt = (-1, S) := by unfold sp_back; rw [if_neg (fun q => h1 ((im _).mpr q))]
    rw [e]
    exact ⟨rfl, hG9⟩
  have g1 := (im _).mp h1
  obtain ⟨a, ha, ea⟩ := h1
  subst ea
  have e1 : (nI a).toInt = (a : Int) := nI_toInt (by omega)
  have esp : sp_back S (nI a).toInt = withM (addM S.2.1 (adj9 (S.2.1.2 a))) S := by
    unfold sp_back
    rw [if_pos g1, e1]; rfl
  rw [esp] at hX
  refine hX.run (oc := [(434, oIsMap S.2.1)]) kX11_back_ok ftX11_ok ctX11_ok hoc [] [] [] 30 ?_
  refine hX.callV0 (rest := []) (c_bring_one l (nI S.1.1) (nI S.2.2.1.1) (nI S.2.2.2.1.1) (nI S.2.2.2.2.1) pp av be so ro tb gv sd gr row _ _ _ S.2.1 hrt a ha) yX11_bring_ok lkX11_220 ivX11_bring slX11_bring ⟨rfl, rfl, by decide, by decide⟩ (kX11_back_ok.at 16 rfl) rfl rfl (by decide) rfl rfl rfl (fun _ _ q => by rw [q.2]; rfl) (fun r9 G1 q => ?_)
  obtain ⟨rfl, rfl⟩ := q
  refine hX.run (oc := [(434, oIsMap S.2.1)]) kX11_back_ok ftX11_ok ctX11_ok hoc [] [] [] 30 ?_
  refine hX.callS [9, 8] [] (c_turnBack l (S.2.1.2 a) table) yX11_turnBack_ok lkX11_224 ssX11_turnBack ⟨rfl, rfl, by decide, by decide⟩ (kX11_back_ok.at 27 rfl) rfl rfl (by decide) ⟨rfl, rfl, trivial⟩ rfl (fun _ _ q => by rw [q.2]; rfl) (fun r9 G1 q => ?_)
  obtain ⟨rfl, rfl⟩ := q
  refine hX.run (oc := [(434, oIsMap S.2.1)]) kX11_back_ok ftX11_ok ctX11_ok hoc [] [] [] 30 ?_
  refine hX.callV0 (rest := []) (c_map l (nI S.1.1) (nI S.2.2.1.1) (nI S.2.2.2.1.1) (nI S.2.2.2.2.1) pp av be so ro tb gv sd gr row _ _ S.2.1 (adj9 (S.2.1.2 a)) hrt (fun i hi => ab_jr (adj9_bd (fun i hi => hrt.bd ha hi) i) (by decide)) (det_ne (by rw [tadj]; exact Int.mul_ne_zero (hgood a ha) (hgood a ha)))) yX11_map_ok lkX11_190 ivX11_map slX11_map ⟨rfl, rfl, by decide, by decide⟩ (kX11_back_ok.at 31 rfl) rfl rfl (by decide) rfl rfl rfl (fun _ _ q => by obtain ⟨_, _, -, -, rfl⟩ := q; rfl) (fun r9 G1 q => ?_)
  obtain ⟨tb2, table2, rfl, q2, rfl⟩ := q
  refine hX.run (oc := [(434, oIsMap S.2.1)]) kX11_back_ok ftX11_ok ctX11_ok hoc [] [] [] 30 ?_
  exact ⟨rfl, pp, av, be, so, ro, tb2, gv, sd, gr, row, table2, _, _, rfl, hro, q2, hrv, hrs.more (addM_le _ _), hrg, hr1⟩
set_option maxHeartbeats 4000000 in
set_option maxRecDepth 100000 in
theorem r_among (l : Launch) (S : SS) (G0 : List xE) (hG : RInv S G0) (a0 : Int32) : xM l yX11_among cX11_among 2 (some .int) rX11_among [.ref 0, .int a0] G0 (fun r G => r = some (.int (zi (sp_among S a0.toInt))) ∧ RInv S G) := by
  have hG9 := hG
  obtain ⟨pp, av, be, so, ro, tb, gv, sd, gr, row, table, one, two, rfl, hro, hrt, hrv, hrs, hrg, hr1⟩ := hG
  refine xM.of (by decide) (Nat.le_of_ble_eq_true rfl) (fun X hX => ?_)
  have hM := hrt.1
  have hoc := xoc1 (oIsMap_ok hX (by decide) hM) xnoc
  have im : ∀ k : Int32, isM S.2.1 k ↔ (0 ≤ k.toInt ∧ k.toInt < S.2.1.1) := fun k => isM_iff (by omega)
  refine hX.run (oc := [(434, oIsMap S.2.1)]) kX11_among_ok ftX11_ok ctX11_ok hoc [10] [5] [] 60 ?_
  refine ⟨rfl, fun h1 => ?_, fun h1 => ?_⟩
  rotate_left
  · have e : sp_among S a0.toInt = -1 := by unfold sp_among; rw [if_neg (fun q => h1 ((im _).mpr q))]
    rw [e]
    exact ⟨rfl, hG9⟩
  have g1 := (im _).mp h1
  obtain ⟨a, ha, ea⟩ := h1
  subst ea
  have e1 : (nI a).toInt = (a : Int) := nI_toInt (by omega)
  have esp : sp_among S (nI a).toInt = fndP S.2.2.2.2 (S.2.1.2 a) := by
    unfold sp_among
    rw [if_pos g1, e1]; rfl
  rw [esp] at hX
  refine hX.run (oc := [(434, oIsMap S.2.1)]) kX11_among_ok ftX11_ok ctX11_ok hoc [] [] [] 30 ?_
  refine hX.callV0 (rest := []) (c_bring_table l (nI S.1.1) (nI S.2.2.1.1) (nI S.2.2.2.1.1) (nI S.2.2.2.2.1) pp av be so ro tb gv sd gr row _ _ _ S.2.1 hrt a ha) yX11_bring_ok lkX11_220 ivX11_bring slX11_bring ⟨rfl, rfl, by decide, by decide⟩ (kX11_among_ok.at 16 rfl) rfl rfl (by decide) rfl rfl rfl (fun _ _ q => by rw [q.2]; rfl) (fun r9 G1 q => ?_)
  obtain ⟨rfl, rfl⟩ := q
  refine hX.run (oc := [(434, oIsMap S.2.1)]) kX11_among_ok ftX11_ok ctX11_ok hoc [] [] [] 30 ?_
  refine hX.callV0 (rest := []) (c_find l (nI S.1.1) (nI S.2.1.1) (nI S.2.2.1.1) (nI S.2.2.2.1.1) pp av be so ro tb gv sd gr row one two S.2.2.2.2 (S.2.1.2 a) hrg (fun i hi => hrt.bd ha hi)) yX11_find_ok lkX11_264 ivX11_find slX11_find ⟨rfl, rfl, by decide, by decide⟩ (kX11_among_ok.at 20 rfl) rfl rfl (by decide) rfl rfl rfl (fun _ _ q => by rw [q.2]) (fun r9 G1 q => ?_)
  obtain ⟨rfl, rfl⟩ := q
  refine hX.run (oc := [(434, oIsMap S.2.1)]) kX11_among_ok ftX11_ok ctX11_ok hoc [] [] [] 30 ?_
  exact ⟨rfl, pp, av, be, so, ro, tb, gv, sd, gr, row, _, one, two, rfl, hro, hrt, hrv, hrs, hrg, hr1⟩
