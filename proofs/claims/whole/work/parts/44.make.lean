def prm (k : Nat) : Int := if k = 0 then 2147483647 else if k = 1 then 2147483629 else 2147483587
def bpT (kd : Nat) (p : Int) (S : SO) (V : SV) : Nat → Int := if kd = 5 then likT p S V else if kd = 6 then affT p S V else prjT p S V
theorem bpT_rz {p : Int} (hp : pok p) (kd : Nat) (S : SO) (V : SV) (i : Nat) : rz p (bpT kd p S V i) := by
  have h0 : rz p 0 := ⟨by omega, by have := hp.1; omega⟩
  unfold bpT
  split
  · unfold likT t9
    repeat' split
    all_goals first | exact h0 | exact rz_mod hp _
  · split
    · exact psm_rz hp _ _ _
    · exact psm_rz hp _ _ _
/-- what the primes tell, one behind another -/
def bpy (S : SO) (V : SV) (M : SM) (kd : Nat) : Nat → Nat → Int × SM
  | 0, _ => (-4, M)
  | d + 1, k => match telV (prm k) (bpT kd (prm k) S V) with
    | some T => if triB S V T kd (kn kd) then addM M T else bpy S V M kd d (k + 1)
    | none => bpy S V M kd d (k + 1)
theorem bpy_no {S : SO} {V : SV} {M : SM} {kd d k : Nat} (h : telV (prm k) (bpT kd (prm k) S V) = none ∨ (∃ T, telV (prm k) (bpT kd (prm k) S V) = some T ∧ triB S V T kd (kn kd) = false)) : bpy S V M kd (d + 1) k = bpy S V M kd d (k + 1) := by
  rw [bpy]
  rcases h with h | ⟨T, h1, h2⟩
  · rw [h]
  · rw [h1]
    dsimp only
    rw [h2]
    rfl
theorem bpy_yes {S : SO} {V : SV} {M : SM} {kd d k : Nat} {T : Nat → Int} (h : telV (prm k) (bpT kd (prm k) S V) = some T) (h2 : triB S V T kd (kn kd) = true) : bpy S V M kd (d + 1) k = addM M T := by
  rw [bpy, h]
  dsimp only
  rw [h2]
  rfl
theorem telV_bd {p : Int} {t T : Nat → Int} (h : telV p t = some T) (i : Nat) (hi : i < 9) : ab (T i) 500 := by
  unfold telV at h
  split at h
  · cases h
  · split at h
    · cases h
    · split at h
      · next hf =>
        cases h
        exact lrow_bd hf i hi
      · cases h
theorem prm_ok (k : Nat) : pok (prm k) := by
  unfold prm pok
  split
  · omega
  · split <;> omega
theorem triB_det {S : SO} {V : SV} {T : Nat → Int} {k n : Nat} (h : triB S V T k n = true) : det9 T ≠ 0 := by
  unfold triB at h
  simp only [Bool.and_eq_true, decide_eq_true_eq] at h
  exact h.1.1
set_option maxHeartbeats 4000000 in
set_option maxRecDepth 100000 in
theorem c_byPoints5 (l : Launch) (ns ngr : Int32) (pp av be : Int64) (so ro tb gv sd gr : Nat → Int32) (row table one two : Nat → Int64) (S : SO) (V : SV) (M : SM) (hS : RO S so ro) (hV : RV 8 S.1 V gv) (hM : RT 40 M tb) (hpi : ∀ k, k < 3 → pinv (prm k)) (hN : V.1 = 4) : xM l yX11_byPoints cX11_byPoints 4 (some .int) rX11_byPoints [.ref 0, .int (nI 5)] (GR (nI S.1) (nI M.1) (nI V.1) ns ngr pp av be so ro tb gv sd gr row table one two) (fun r G => ∃ tb' pp' av' be' row' table' one' two', r = some (.int (zi (bpy S V M 5 3 0).1)) ∧ RT 40 (bpy S V M 5 3 0).2 tb' ∧ G = GR (nI S.1) (nI (bpy S V M 5 3 0).2.1) (nI V.1) ns ngr pp' av' be' so ro tb' gv sd gr row' table' one' two') := by
  refine xM.of (by decide) (Nat.le_of_ble_eq_true rfl) (fun X hX => ?_)
  have s3 : (bpy S V M 5 3 0) = bpy S V M 5 0 3 → ∀ (pp av be : Int64) (row table one two : Nat → Int64), X 23 [some (.ref 0), some (.int (nI 5)), some (.int (nI 2)), some (.int (nI 3))] [] (GR (nI S.1) (nI M.1) (nI V.1) ns ngr pp av be so ro tb gv sd gr row table one two) := by
    intro h pp av be row table one two
    refine hX.run (oc := []) kX11_byPoints_ok ftX11_ok ctX11_ok xnoc [] [2, 12, 25, 30, 41, 58, 71] [] 60 ?_
    rw [h]
    exact ⟨tb, pp, av, be, row, table, one, two, rfl, hM, rfl⟩
  have s2 : (bpy S V M 5 3 0) = bpy S V M 5 1 2 → ∀ (pp av be : Int64) (row table one two : Nat → Int64), X 23 [some (.ref 0), some (.int (nI 5)), some (.int (nI 2)), some (.int (nI 2))] [] (GR (nI S.1) (nI M.1) (nI V.1) ns ngr pp av be so ro tb gv sd gr row table one two) := by
    intro h pp av be row table one two
    have nxt : telV (prm 2) (bpT 5 (prm 2) S V) = none ∨ (∃ T, telV (prm 2) (bpT 5 (prm 2) S V) = some T ∧ triB S V T 5 2 = false) → ∀ (pp av be : Int64) (row table one two : Nat → Int64), X 23 [some (.ref 0), some (.int (nI 5)), some (.int (nI 2)), some (.int (nI 3))] [] (GR (nI S.1) (nI M.1) (nI V.1) ns ngr pp av be so ro tb gv sd gr row table one two) := by
      intro hc
      exact s3 (h.trans (bpy_no (d := 0) hc))
    refine hX.run (oc := []) kX11_byPoints_ok ftX11_ok ctX11_ok xnoc [] [2, 12, 25, 30, 41, 58, 71] [] 60 ?_
    refine hX.callV0 (rest := []) (c_likeness l (nI M.1) ns ngr av be so ro tb gv sd gr row table one two (prm 2) (prm_ok 2) S V hS hV hN) yX11_likeness_ok lkX11_175 ivX11_likeness slX11_likeness ⟨rfl, rfl, by decide, by decide⟩ (kX11_byPoints_ok.at 62 rfl) rfl rfl (by decide) rfl rfl rfl (fun _ _ q => by rw [q.2]; rfl) (fun r9 G1 q => ?_)
    obtain ⟨rfl, rfl⟩ := q
    refine hX.run (oc := []) kX11_byPoints_ok ftX11_ok ctX11_ok xnoc [] [2, 12, 25, 30, 41, 58, 71] [] 60 ?_
    refine hX.callV0 (rest := []) (c_tellBack l (nI S.1) (nI M.1) (nI V.1) ns ngr av be so ro tb gv sd gr row table one two (prm 2) (prm_ok 2) (hpi 2 (by omega)) (bpT 5 (prm 2) S V) (fun i _ => bpT_rz (prm_ok 2) 5 S V i)) yX11_tellBack_ok lkX11_184 ivX11_tellBack slX11_tellBack ⟨rfl, rfl, by decide, by decide⟩ (kX11_byPoints_ok.at 86 rfl) rfl rfl (by decide) rfl rfl rfl (fun _ _ q => by obtain ⟨_, _, _, _, _, -, -, rfl⟩ := q; rfl) (fun r9 G1 q => ?_)
    obtain ⟨av2, be2, table2, one2, two2, rfl, hT, rfl⟩ := q
    cases ht : telV (prm 2) (bpT 5 (prm 2) S V) with
    | none =>
      refine hX.run (oc := []) kX11_byPoints_ok ftX11_ok ctX11_ok xnoc [23] [2, 12, 25, 30, 41, 58, 71, 89] [] 60 ?_
      exact nxt (Or.inl ht) _ _ _ _ _ _ _
    | some T =>
      refine hX.alike (G2 := GR (nI S.1) (nI M.1) (nI V.1) ns ngr (zl (prm 2)) av2 be2 so ro tb gv sd gr row (fun i => zl (T i)) one2 two2) ?_ ⟨xsame_rf _, xsame_rf _, xsame_rf _, xsame_rf _, xsame_rf _, xsame_rf _, xsame_rf _, xsame_rf _, ⟨rfl, fun i hi => ?_⟩, xsame_rf _, xsame_rf _, trivial⟩
      rotate_left
      · exact hT T ht i hi
      refine hX.run (oc := []) kX11_byPoints_ok ftX11_ok ctX11_ok xnoc [23] [2, 12, 25, 30, 41, 58, 71, 89] [] 60 ?_
      refine hX.callV0 (rest := []) (c_isTried l (nI M.1) ns ngr (zl (prm 2)) av2 be2 so ro tb gv sd gr row one2 two2 S V hS hV T (telV_bd ht) 5 2 (by omega) (by omega) (by omega) (fun _ => by omega)) yX11_isTried_ok lkX11_187 ivX11_isTried slX11_isTried ⟨rfl, rfl, by decide, by decide⟩ (kX11_byPoints_ok.at 95 rfl) rfl rfl (by decide) rfl rfl rfl (fun _ _ q => by obtain ⟨-, _, rfl⟩ := q; rfl) (fun r9 G1 q => ?_)
      obtain ⟨rfl, row2, rfl⟩ := q
      refine hX.run (oc := []) kX11_byPoints_ok ftX11_ok ctX11_ok xnoc [23] [2, 12, 25, 30, 41, 58, 71] [] 60 ?_
      refine ⟨fun h2 => nxt (Or.inr ⟨T, ht, bI_0.mp h2⟩) _ _ _ _ _ _ _, fun h2 => ?_⟩
      have hb := bI_t h2
      have esp : (bpy S V M 5 3 0) = addM M T := h.trans (bpy_yes (d := 0) ht hb)
      refine hX.callV0 (rest := []) (c_map l (nI S.1) (nI V.1) ns ngr (zl (prm 2)) av2 be2 so ro tb gv sd gr row2 one2 two2 M T hM (fun i hi => ab_jr (telV_bd ht i hi) (by decide)) (det_ne (triB_det hb))) yX11_map_ok lkX11_190 ivX11_map slX11_map ⟨rfl, rfl, by decide, by decide⟩ (kX11_byPoints_ok.at 102 rfl) rfl rfl (by decide) rfl rfl rfl (fun _ _ q => by obtain ⟨_, _, -, -, rfl⟩ := q; rfl) (fun r9 G1 q => ?_)
      obtain ⟨tb2, table3, rfl, q2, rfl⟩ := q
      refine hX.run (oc := []) kX11_byPoints_ok ftX11_ok ctX11_ok xnoc [] [2, 12, 25, 30, 41, 58, 71] [] 60 ?_
      rw [esp]
      exact ⟨tb2, _, av2, be2, row2, table3, one2, two2, rfl, q2, rfl⟩
  have s1 : (bpy S V M 5 3 0) = bpy S V M 5 2 1 → ∀ (pp av be : Int64) (row table one two : Nat → Int64), X 23 [some (.ref 0), some (.int (nI 5)), some (.int (nI 2)), some (.int (nI 1))] [] (GR (nI S.1) (nI M.1) (nI V.1) ns ngr pp av be so ro tb gv sd gr row table one two) := by
    intro h pp av be row table one two
    have nxt : telV (prm 1) (bpT 5 (prm 1) S V) = none ∨ (∃ T, telV (prm 1) (bpT 5 (prm 1) S V) = some T ∧ triB S V T 5 2 = false) → ∀ (pp av be : Int64) (row table one two : Nat → Int64), X 23 [some (.ref 0), some (.int (nI 5)), some (.int (nI 2)), some (.int (nI 2))] [] (GR (nI S.1) (nI M.1) (nI V.1) ns ngr pp av be so ro tb gv sd gr row table one two) := by
      intro hc
      exact s2 (h.trans (bpy_no (d := 1) hc))
    refine hX.run (oc := []) kX11_byPoints_ok ftX11_ok ctX11_ok xnoc [] [2, 12, 25, 30, 41, 58, 71] [] 60 ?_
    refine hX.callV0 (rest := []) (c_likeness l (nI M.1) ns ngr av be so ro tb gv sd gr row table one two (prm 1) (prm_ok 1) S V hS hV hN) yX11_likeness_ok lkX11_175 ivX11_likeness slX11_likeness ⟨rfl, rfl, by decide, by decide⟩ (kX11_byPoints_ok.at 62 rfl) rfl rfl (by decide) rfl rfl rfl (fun _ _ q => by rw [q.2]; rfl) (fun r9 G1 q => ?_)
    obtain ⟨rfl, rfl⟩ := q
    refine hX.run (oc := []) kX11_byPoints_ok ftX11_ok ctX11_ok xnoc [] [2, 12, 25, 30, 41, 58, 71] [] 60 ?_
    refine hX.callV0 (rest := []) (c_tellBack l (nI S.1) (nI M.1) (nI V.1) ns ngr av be so ro tb gv sd gr row table one two (prm 1) (prm_ok 1) (hpi 1 (by omega)) (bpT 5 (prm 1) S V) (fun i _ => bpT_rz (prm_ok 1) 5 S V i)) yX11_tellBack_ok lkX11_184 ivX11_tellBack slX11_tellBack ⟨rfl, rfl, by decide, by decide⟩ (kX11_byPoints_ok.at 86 rfl) rfl rfl (by decide) rfl rfl rfl (fun _ _ q => by obtain ⟨_, _, _, _, _, -, -, rfl⟩ := q; rfl) (fun r9 G1 q => ?_)
    obtain ⟨av2, be2, table2, one2, two2, rfl, hT, rfl⟩ := q
    cases ht : telV (prm 1) (bpT 5 (prm 1) S V) with
    | none =>
      refine hX.run (oc := []) kX11_byPoints_ok ftX11_ok ctX11_ok xnoc [23] [2, 12, 25, 30, 41, 58, 71, 89] [] 60 ?_
      exact nxt (Or.inl ht) _ _ _ _ _ _ _
    | some T =>
      refine hX.alike (G2 := GR (nI S.1) (nI M.1) (nI V.1) ns ngr (zl (prm 1)) av2 be2 so ro tb gv sd gr row (fun i => zl (T i)) one2 two2) ?_ ⟨xsame_rf _, xsame_rf _, xsame_rf _, xsame_rf _, xsame_rf _, xsame_rf _, xsame_rf _, xsame_rf _, ⟨rfl, fun i hi => ?_⟩, xsame_rf _, xsame_rf _, trivial⟩
      rotate_left
      · exact hT T ht i hi
      refine hX.run (oc := []) kX11_byPoints_ok ftX11_ok ctX11_ok xnoc [23] [2, 12, 25, 30, 41, 58, 71, 89] [] 60 ?_
      refine hX.callV0 (rest := []) (c_isTried l (nI M.1) ns ngr (zl (prm 1)) av2 be2 so ro tb gv sd gr row one2 two2 S V hS hV T (telV_bd ht) 5 2 (by omega) (by omega) (by omega) (fun _ => by omega)) yX11_isTried_ok lkX11_187 ivX11_isTried slX11_isTried ⟨rfl, rfl, by decide, by decide⟩ (kX11_byPoints_ok.at 95 rfl) rfl rfl (by decide) rfl rfl rfl (fun _ _ q => by obtain ⟨-, _, rfl⟩ := q; rfl) (fun r9 G1 q => ?_)
      obtain ⟨rfl, row2, rfl⟩ := q
      refine hX.run (oc := []) kX11_byPoints_ok ftX11_ok ctX11_ok xnoc [23] [2, 12, 25, 30, 41, 58, 71] [] 60 ?_
      refine ⟨fun h2 => nxt (Or.inr ⟨T, ht, bI_0.mp h2⟩) _ _ _ _ _ _ _, fun h2 => ?_⟩
      have hb := bI_t h2
      have esp : (bpy S V M 5 3 0) = addM M T := h.trans (bpy_yes (d := 1) ht hb)
      refine hX.callV0 (rest := []) (c_map l (nI S.1) (nI V.1) ns ngr (zl (prm 1)) av2 be2 so ro tb gv sd gr row2 one2 two2 M T hM (fun i hi => ab_jr (telV_bd ht i hi) (by decide)) (det_ne (triB_det hb))) yX11_map_ok lkX11_190 ivX11_map slX11_map ⟨rfl, rfl, by decide, by decide⟩ (kX11_byPoints_ok.at 102 rfl) rfl rfl (by decide) rfl rfl rfl (fun _ _ q => by obtain ⟨_, _, -, -, rfl⟩ := q; rfl) (fun r9 G1 q => ?_)
      obtain ⟨tb2, table3, rfl, q2, rfl⟩ := q
      refine hX.run (oc := []) kX11_byPoints_ok ftX11_ok ctX11_ok xnoc [] [2, 12, 25, 30, 41, 58, 71] [] 60 ?_
      rw [esp]
      exact ⟨tb2, _, av2, be2, row2, table3, one2, two2, rfl, q2, rfl⟩
  have s0 : (bpy S V M 5 3 0) = bpy S V M 5 3 0 → ∀ (pp av be : Int64) (row table one two : Nat → Int64), X 23 [some (.ref 0), some (.int (nI 5)), some (.int (nI 2)), some (.int (nI 0))] [] (GR (nI S.1) (nI M.1) (nI V.1) ns ngr pp av be so ro tb gv sd gr row table one two) := by
    intro h pp av be row table one two
    have nxt : telV (prm 0) (bpT 5 (prm 0) S V) = none ∨ (∃ T, telV (prm 0) (bpT 5 (prm 0) S V) = some T ∧ triB S V T 5 2 = false) → ∀ (pp av be : Int64) (row table one two : Nat → Int64), X 23 [some (.ref 0), some (.int (nI 5)), some (.int (nI 2)), some (.int (nI 1))] [] (GR (nI S.1) (nI M.1) (nI V.1) ns ngr pp av be so ro tb gv sd gr row table one two) := by
      intro hc
      exact s1 (h.trans (bpy_no (d := 2) hc))
    refine hX.run (oc := []) kX11_byPoints_ok ftX11_ok ctX11_ok xnoc [] [2, 12, 25, 30, 41, 58, 71] [] 60 ?_
    refine hX.callV0 (rest := []) (c_likeness l (nI M.1) ns ngr av be so ro tb gv sd gr row table one two (prm 0) (prm_ok 0) S V hS hV hN) yX11_likeness_ok lkX11_175 ivX11_likeness slX11_likeness ⟨rfl, rfl, by decide, by decide⟩ (kX11_byPoints_ok.at 62 rfl) rfl rfl (by decide) rfl rfl rfl (fun _ _ q => by rw [q.2]; rfl) (fun r9 G1 q => ?_)
    obtain ⟨rfl, rfl⟩ := q
    refine hX.run (oc := []) kX11_byPoints_ok ftX11_ok ctX11_ok xnoc [] [2, 12, 25, 30, 41, 58, 71] [] 60 ?_
    refine hX.callV0 (rest := []) (c_tellBack l (nI S.1) (nI M.1) (nI V.1) ns ngr av be so ro tb gv sd gr row table one two (prm 0) (prm_ok 0) (hpi 0 (by omega)) (bpT 5 (prm 0) S V) (fun i _ => bpT_rz (prm_ok 0) 5 S V i)) yX11_tellBack_ok lkX11_184 ivX11_tellBack slX11_tellBack ⟨rfl, rfl, by decide, by decide⟩ (kX11_byPoints_ok.at 86 rfl) rfl rfl (by decide) rfl rfl rfl (fun _ _ q => by obtain ⟨_, _, _, _, _, -, -, rfl⟩ := q; rfl) (fun r9 G1 q => ?_)
    obtain ⟨av2, be2, table2, one2, two2, rfl, hT, rfl⟩ := q
    cases ht : telV (prm 0) (bpT 5 (prm 0) S V) with
    | none =>
      refine hX.run (oc := []) kX11_byPoints_ok ftX11_ok ctX11_ok xnoc [23] [2, 12, 25, 30, 41, 58, 71, 89] [] 60 ?_
      exact nxt (Or.inl ht) _ _ _ _ _ _ _
    | some T =>
      refine hX.alike (G2 := GR (nI S.1) (nI M.1) (nI V.1) ns ngr (zl (prm 0)) av2 be2 so ro tb gv sd gr row (fun i => zl (T i)) one2 two2) ?_ ⟨xsame_rf _, xsame_rf _, xsame_rf _, xsame_rf _, xsame_rf _, xsame_rf _, xsame_rf _, xsame_rf _, ⟨rfl, fun i hi => ?_⟩, xsame_rf _, xsame_rf _, trivial⟩
      rotate_left
      · exact hT T ht i hi
      refine hX.run (oc := []) kX11_byPoints_ok ftX11_ok ctX11_ok xnoc [23] [2, 12, 25, 30, 41, 58, 71, 89] [] 60 ?_
      refine hX.callV0 (rest := []) (c_isTried l (nI M.1) ns ngr (zl (prm 0)) av2 be2 so ro tb gv sd gr row one2 two2 S V hS hV T (telV_bd ht) 5 2 (by omega) (by omega) (by omega) (fun _ => by omega)) yX11_isTried_ok lkX11_187 ivX11_isTried slX11_isTried ⟨rfl, rfl, by decide, by decide⟩ (kX11_byPoints_ok.at 95 rfl) rfl rfl (by decide) rfl rfl rfl (fun _ _ q => by obtain ⟨-, _, rfl⟩ := q; rfl) (fun r9 G1 q => ?_)
      obtain ⟨rfl, row2, rfl⟩ := q
      refine hX.run (oc := []) kX11_byPoints_ok ftX11_ok ctX11_ok xnoc [23] [2, 12, 25, 30, 41, 58, 71] [] 60 ?_
      refine ⟨fun h2 => nxt (Or.inr ⟨T, ht, bI_0.mp h2⟩) _ _ _ _ _ _ _, fun h2 => ?_⟩
      have hb := bI_t h2
      have esp : (bpy S V M 5 3 0) = addM M T := h.trans (bpy_yes (d := 2) ht hb)
      refine hX.callV0 (rest := []) (c_map l (nI S.1) (nI V.1) ns ngr (zl (prm 0)) av2 be2 so ro tb gv sd gr row2 one2 two2 M T hM (fun i hi => ab_jr (telV_bd ht i hi) (by decide)) (det_ne (triB_det hb))) yX11_map_ok lkX11_190 ivX11_map slX11_map ⟨rfl, rfl, by decide, by decide⟩ (kX11_byPoints_ok.at 102 rfl) rfl rfl (by decide) rfl rfl rfl (fun _ _ q => by obtain ⟨_, _, -, -, rfl⟩ := q; rfl) (fun r9 G1 q => ?_)
      obtain ⟨tb2, table3, rfl, q2, rfl⟩ := q
      refine hX.run (oc := []) kX11_byPoints_ok ftX11_ok ctX11_ok xnoc [] [2, 12, 25, 30, 41, 58, 71] [] 60 ?_
      rw [esp]
      exact ⟨tb2, _, av2, be2, row2, table3, one2, two2, rfl, q2, rfl⟩
  refine hX.run (oc := []) kX11_byPoints_ok ftX11_ok ctX11_ok xnoc [23] [2, 12, 25, 30, 41, 58, 71] [] 60 ?_
  exact s0 rfl pp av be row table one two
set_option maxHeartbeats 4000000 in
set_option maxRecDepth 100000 in
theorem c_byPoints6 (l : Launch) (ns ngr : Int32) (pp av be : Int64) (so ro tb gv sd gr : Nat → Int32) (row table one two : Nat → Int64) (S : SO) (V : SV) (M : SM) (hS : RO S so ro) (hV : RV 8 S.1 V gv) (hM : RT 40 M tb) (hpi : ∀ k, k < 3 → pinv (prm k)) (hN : V.1 = 6) : xM l yX11_byPoints cX11_byPoints 4 (some .int) rX11_byPoints [.ref 0, .int (nI 6)] (GR (nI S.1) (nI M.1) (nI V.1) ns ngr pp av be so ro tb gv sd gr row table one two) (fun r G => ∃ tb' pp' av' be' row' table' one' two', r = some (.int (zi (bpy S V M 6 3 0).1)) ∧ RT 40 (bpy S V M 6 3 0).2 tb' ∧ G = GR (nI S.1) (nI (bpy S V M 6 3 0).2.1) (nI V.1) ns ngr pp' av' be' so ro tb' gv sd gr row' table' one' two') := by
  refine xM.of (by decide) (Nat.le_of_ble_eq_true rfl) (fun X hX => ?_)
  have s3 : (bpy S V M 6 3 0) = bpy S V M 6 0 3 → ∀ (pp av be : Int64) (row table one two : Nat → Int64), X 23 [some (.ref 0), some (.int (nI 6)), some (.int (nI 3)), some (.int (nI 3))] [] (GR (nI S.1) (nI M.1) (nI V.1) ns ngr pp av be so ro tb gv sd gr row table one two) := by
    intro h pp av be row table one two
    refine hX.run (oc := []) kX11_byPoints_ok ftX11_ok ctX11_ok xnoc [] [2, 12, 25, 30, 41, 58, 71] [] 60 ?_
    rw [h]
    exact ⟨tb, pp, av, be, row, table, one, two, rfl, hM, rfl⟩
  have s2 : (bpy S V M 6 3 0) = bpy S V M 6 1 2 → ∀ (pp av be : Int64) (row table one two : Nat → Int64), X 23 [some (.ref 0), some (.int (nI 6)), some (.int (nI 3)), some (.int (nI 2))] [] (GR (nI S.1) (nI M.1) (nI V.1) ns ngr pp av be so ro tb gv sd gr row table one two) := by
    intro h pp av be row table one two
    have nxt : telV (prm 2) (bpT 6 (prm 2) S V) = none ∨ (∃ T, telV (prm 2) (bpT 6 (prm 2) S V) = some T ∧ triB S V T 6 3 = false) → ∀ (pp av be : Int64) (row table one two : Nat → Int64), X 23 [some (.ref 0), some (.int (nI 6)), some (.int (nI 3)), some (.int (nI 3))] [] (GR (nI S.1) (nI M.1) (nI V.1) ns ngr pp av be so ro tb gv sd gr row table one two) := by
      intro hc
      exact s3 (h.trans (bpy_no (d := 0) hc))
    refine hX.run (oc := []) kX11_byPoints_ok ftX11_ok ctX11_ok xnoc [] [2, 12, 25, 30, 41, 58, 71] [] 60 ?_
    refine hX.callV0 (rest := []) (c_affine l (nI M.1) ns ngr av be so ro tb gv sd gr row table one two (prm 2) (prm_ok 2) S V hS hV hN) yX11_affine_ok lkX11_178 ivX11_affine slX11_affine ⟨rfl, rfl, by decide, by decide⟩ (kX11_byPoints_ok.at 75 rfl) rfl rfl (by decide) rfl rfl rfl (fun _ _ q => by rw [q.2]; rfl) (fun r9 G1 q => ?_)
    obtain ⟨rfl, rfl⟩ := q
    refine hX.run (oc := []) kX11_byPoints_ok ftX11_ok ctX11_ok xnoc [] [2, 12, 25, 30, 41, 58, 71] [] 60 ?_
    refine hX.callV0 (rest := []) (c_tellBack l (nI S.1) (nI M.1) (nI V.1) ns ngr av be so ro tb gv sd gr row table one two (prm 2) (prm_ok 2) (hpi 2 (by omega)) (bpT 6 (prm 2) S V) (fun i _ => bpT_rz (prm_ok 2) 6 S V i)) yX11_tellBack_ok lkX11_184 ivX11_tellBack slX11_tellBack ⟨rfl, rfl, by decide, by decide⟩ (kX11_byPoints_ok.at 86 rfl) rfl rfl (by decide) rfl rfl rfl (fun _ _ q => by obtain ⟨_, _, _, _, _, -, -, rfl⟩ := q; rfl) (fun r9 G1 q => ?_)
    obtain ⟨av2, be2, table2, one2, two2, rfl, hT, rfl⟩ := q
    cases ht : telV (prm 2) (bpT 6 (prm 2) S V) with
    | none =>
      refine hX.run (oc := []) kX11_byPoints_ok ftX11_ok ctX11_ok xnoc [23] [2, 12, 25, 30, 41, 58, 71, 89] [] 60 ?_
      exact nxt (Or.inl ht) _ _ _ _ _ _ _
    | some T =>
      refine hX.alike (G2 := GR (nI S.1) (nI M.1) (nI V.1) ns ngr (zl (prm 2)) av2 be2 so ro tb gv sd gr row (fun i => zl (T i)) one2 two2) ?_ ⟨xsame_rf _, xsame_rf _, xsame_rf _, xsame_rf _, xsame_rf _, xsame_rf _, xsame_rf _, xsame_rf _, ⟨rfl, fun i hi => ?_⟩, xsame_rf _, xsame_rf _, trivial⟩
      rotate_left
      · exact hT T ht i hi
      refine hX.run (oc := []) kX11_byPoints_ok ftX11_ok ctX11_ok xnoc [23] [2, 12, 25, 30, 41, 58, 71, 89] [] 60 ?_
      refine hX.callV0 (rest := []) (c_isTried l (nI M.1) ns ngr (zl (prm 2)) av2 be2 so ro tb gv sd gr row one2 two2 S V hS hV T (telV_bd ht) 6 3 (by omega) (by omega) (by omega) (fun _ => by omega)) yX11_isTried_ok lkX11_187 ivX11_isTried slX11_isTried ⟨rfl, rfl, by decide, by decide⟩ (kX11_byPoints_ok.at 95 rfl) rfl rfl (by decide) rfl rfl rfl (fun _ _ q => by obtain ⟨-, _, rfl⟩ := q; rfl) (fun r9 G1 q => ?_)
      obtain ⟨rfl, row2, rfl⟩ := q
      refine hX.run (oc := []) kX11_byPoints_ok ftX11_ok ctX11_ok xnoc [23] [2, 12, 25, 30, 41, 58, 71] [] 60 ?_
      refine ⟨fun h2 => nxt (Or.inr ⟨T, ht, bI_0.mp h2⟩) _ _ _ _ _ _ _, fun h2 => ?_⟩
      have hb := bI_t h2
      have esp : (bpy S V M 6 3 0) = addM M T := h.trans (bpy_yes (d := 0) ht hb)
      refine hX.callV0 (rest := []) (c_map l (nI S.1) (nI V.1) ns ngr (zl (prm 2)) av2 be2 so ro tb gv sd gr row2 one2 two2 M T hM (fun i hi => ab_jr (telV_bd ht i hi) (by decide)) (det_ne (triB_det hb))) yX11_map_ok lkX11_190 ivX11_map slX11_map ⟨rfl, rfl, by decide, by decide⟩ (kX11_byPoints_ok.at 102 rfl) rfl rfl (by decide) rfl rfl rfl (fun _ _ q => by obtain ⟨_, _, -, -, rfl⟩ := q; rfl) (fun r9 G1 q => ?_)
      obtain ⟨tb2, table3, rfl, q2, rfl⟩ := q
      refine hX.run (oc := []) kX11_byPoints_ok ftX11_ok ctX11_ok xnoc [] [2, 12, 25, 30, 41, 58, 71] [] 60 ?_
      rw [esp]
      exact ⟨tb2, _, av2, be2, row2, table3, one2, two2, rfl, q2, rfl⟩
  have s1 : (bpy S V M 6 3 0) = bpy S V M 6 2 1 → ∀ (pp av be : Int64) (row table one two : Nat → Int64), X 23 [some (.ref 0), some (.int (nI 6)), some (.int (nI 3)), some (.int (nI 1))] [] (GR (nI S.1) (nI M.1) (nI V.1) ns ngr pp av be so ro tb gv sd gr row table one two) := by
    intro h pp av be row table one two
    have nxt : telV (prm 1) (bpT 6 (prm 1) S V) = none ∨ (∃ T, telV (prm 1) (bpT 6 (prm 1) S V) = some T ∧ triB S V T 6 3 = false) → ∀ (pp av be : Int64) (row table one two : Nat → Int64), X 23 [some (.ref 0), some (.int (nI 6)), some (.int (nI 3)), some (.int (nI 2))] [] (GR (nI S.1) (nI M.1) (nI V.1) ns ngr pp av be so ro tb gv sd gr row table one two) := by
      intro hc
      exact s2 (h.trans (bpy_no (d := 1) hc))
    refine hX.run (oc := []) kX11_byPoints_ok ftX11_ok ctX11_ok xnoc [] [2, 12, 25, 30, 41, 58, 71] [] 60 ?_
    refine hX.callV0 (rest := []) (c_affine l (nI M.1) ns ngr av be so ro tb gv sd gr row table one two (prm 1) (prm_ok 1) S V hS hV hN) yX11_affine_ok lkX11_178 ivX11_affine slX11_affine ⟨rfl, rfl, by decide, by decide⟩ (kX11_byPoints_ok.at 75 rfl) rfl rfl (by decide) rfl rfl rfl (fun _ _ q => by rw [q.2]; rfl) (fun r9 G1 q => ?_)
    obtain ⟨rfl, rfl⟩ := q
    refine hX.run (oc := []) kX11_byPoints_ok ftX11_ok ctX11_ok xnoc [] [2, 12, 25, 30, 41, 58, 71] [] 60 ?_
    refine hX.callV0 (rest := []) (c_tellBack l (nI S.1) (nI M.1) (nI V.1) ns ngr av be so ro tb gv sd gr row table one two (prm 1) (prm_ok 1) (hpi 1 (by omega)) (bpT 6 (prm 1) S V) (fun i _ => bpT_rz (prm_ok 1) 6 S V i)) yX11_tellBack_ok lkX11_184 ivX11_tellBack slX11_tellBack ⟨rfl, rfl, by decide, by decide⟩ (kX11_byPoints_ok.at 86 rfl) rfl rfl (by decide) rfl rfl rfl (fun _ _ q => by obtain ⟨_, _, _, _, _, -, -, rfl⟩ := q; rfl) (fun r9 G1 q => ?_)
    obtain ⟨av2, be2, table2, one2, two2, rfl, hT, rfl⟩ := q
    cases ht : telV (prm 1) (bpT 6 (prm 1) S V) with
    | none =>
      refine hX.run (oc := []) kX11_byPoints_ok ftX11_ok ctX11_ok xnoc [23] [2, 12, 25, 30, 41, 58, 71, 89] [] 60 ?_
      exact nxt (Or.inl ht) _ _ _ _ _ _ _
    | some T =>
      refine hX.alike (G2 := GR (nI S.1) (nI M.1) (nI V.1) ns ngr (zl (prm 1)) av2 be2 so ro tb gv sd gr row (fun i => zl (T i)) one2 two2) ?_ ⟨xsame_rf _, xsame_rf _, xsame_rf _, xsame_rf _, xsame_rf _, xsame_rf _, xsame_rf _, xsame_rf _, ⟨rfl, fun i hi => ?_⟩, xsame_rf _, xsame_rf _, trivial⟩
      rotate_left
      · exact hT T ht i hi
      refine hX.run (oc := []) kX11_byPoints_ok ftX11_ok ctX11_ok xnoc [23] [2, 12, 25, 30, 41, 58, 71, 89] [] 60 ?_
      refine hX.callV0 (rest := []) (c_isTried l (nI M.1) ns ngr (zl (prm 1)) av2 be2 so ro tb gv sd gr row one2 two2 S V hS hV T (telV_bd ht) 6 3 (by omega) (by omega) (by omega) (fun _ => by omega)) yX11_isTried_ok lkX11_187 ivX11_isTried slX11_isTried ⟨rfl, rfl, by decide, by decide⟩ (kX11_byPoints_ok.at 95 rfl) rfl rfl (by decide) rfl rfl rfl (fun _ _ q => by obtain ⟨-, _, rfl⟩ := q; rfl) (fun r9 G1 q => ?_)
      obtain ⟨rfl, row2, rfl⟩ := q
      refine hX.run (oc := []) kX11_byPoints_ok ftX11_ok ctX11_ok xnoc [23] [2, 12, 25, 30, 41, 58, 71] [] 60 ?_
      refine ⟨fun h2 => nxt (Or.inr ⟨T, ht, bI_0.mp h2⟩) _ _ _ _ _ _ _, fun h2 => ?_⟩
      have hb := bI_t h2
      have esp : (bpy S V M 6 3 0) = addM M T := h.trans (bpy_yes (d := 1) ht hb)
      refine hX.callV0 (rest := []) (c_map l (nI S.1) (nI V.1) ns ngr (zl (prm 1)) av2 be2 so ro tb gv sd gr row2 one2 two2 M T hM (fun i hi => ab_jr (telV_bd ht i hi) (by decide)) (det_ne (triB_det hb))) yX11_map_ok lkX11_190 ivX11_map slX11_map ⟨rfl, rfl, by decide, by decide⟩ (kX11_byPoints_ok.at 102 rfl) rfl rfl (by decide) rfl rfl rfl (fun _ _ q => by obtain ⟨_, _, -, -, rfl⟩ := q; rfl) (fun r9 G1 q => ?_)
      obtain ⟨tb2, table3, rfl, q2, rfl⟩ := q
      refine hX.run (oc := []) kX11_byPoints_ok ftX11_ok ctX11_ok xnoc [] [2, 12, 25, 30, 41, 58, 71] [] 60 ?_
      rw [esp]
      exact ⟨tb2, _, av2, be2, row2, table3, one2, two2, rfl, q2, rfl⟩
  have s0 : (bpy S V M 6 3 0) = bpy S V M 6 3 0 → ∀ (pp av be : Int64) (row table one two : Nat → Int64), X 23 [some (.ref 0), some (.int (nI 6)), some (.int (nI 3)), some (.int (nI 0))] [] (GR (nI S.1) (nI M.1) (nI V.1) ns ngr pp av be so ro tb gv sd gr row table one two) := by
    intro h pp av be row table one two
    have nxt : telV (prm 0) (bpT 6 (prm 0) S V) = none ∨ (∃ T, telV (prm 0) (bpT 6 (prm 0) S V) = some T ∧ triB S V T 6 3 = false) → ∀ (pp av be : Int64) (row table one two : Nat → Int64), X 23 [some (.ref 0), some (.int (nI 6)), some (.int (nI 3)), some (.int (nI 1))] [] (GR (nI S.1) (nI M.1) (nI V.1) ns ngr pp av be so ro tb gv sd gr row table one two) := by
      intro hc
      exact s1 (h.trans (bpy_no (d := 2) hc))
    refine hX.run (oc := []) kX11_byPoints_ok ftX11_ok ctX11_ok xnoc [] [2, 12, 25, 30, 41, 58, 71] [] 60 ?_
    refine hX.callV0 (rest := []) (c_affine l (nI M.1) ns ngr av be so ro tb gv sd gr row table one two (prm 0) (prm_ok 0) S V hS hV hN) yX11_affine_ok lkX11_178 ivX11_affine slX11_affine ⟨rfl, rfl, by decide, by decide⟩ (kX11_byPoints_ok.at 75 rfl) rfl rfl (by decide) rfl rfl rfl (fun _ _ q => by rw [q.2]; rfl) (fun r9 G1 q => ?_)
    obtain ⟨rfl, rfl⟩ := q
    refine hX.run (oc := []) kX11_byPoints_ok ftX11_ok ctX11_ok xnoc [] [2, 12, 25, 30, 41, 58, 71] [] 60 ?_
    refine hX.callV0 (rest := []) (c_tellBack l (nI S.1) (nI M.1) (nI V.1) ns ngr av be so ro tb gv sd gr row table one two (prm 0) (prm_ok 0) (hpi 0 (by omega)) (bpT 6 (prm 0) S V) (fun i _ => bpT_rz (prm_ok 0) 6 S V i)) yX11_tellBack_ok lkX11_184 ivX11_tellBack slX11_tellBack ⟨rfl, rfl, by decide, by decide⟩ (kX11_byPoints_ok.at 86 rfl) rfl rfl (by decide) rfl rfl rfl (fun _ _ q => by obtain ⟨_, _, _, _, _, -, -, rfl⟩ := q; rfl) (fun r9 G1 q => ?_)
    obtain ⟨av2, be2, table2, one2, two2, rfl, hT, rfl⟩ := q
    cases ht : telV (prm 0) (bpT 6 (prm 0) S V) with
    | none =>
      refine hX.run (oc := []) kX11_byPoints_ok ftX11_ok ctX11_ok xnoc [23] [2, 12, 25, 30, 41, 58, 71, 89] [] 60 ?_
      exact nxt (Or.inl ht) _ _ _ _ _ _ _
    | some T =>
      refine hX.alike (G2 := GR (nI S.1) (nI M.1) (nI V.1) ns ngr (zl (prm 0)) av2 be2 so ro tb gv sd gr row (fun i => zl (T i)) one2 two2) ?_ ⟨xsame_rf _, xsame_rf _, xsame_rf _, xsame_rf _, xsame_rf _, xsame_rf _, xsame_rf _, xsame_rf _, ⟨rfl, fun i hi => ?_⟩, xsame_rf _, xsame_rf _, trivial⟩
      rotate_left
      · exact hT T ht i hi
      refine hX.run (oc := []) kX11_byPoints_ok ftX11_ok ctX11_ok xnoc [23] [2, 12, 25, 30, 41, 58, 71, 89] [] 60 ?_
      refine hX.callV0 (rest := []) (c_isTried l (nI M.1) ns ngr (zl (prm 0)) av2 be2 so ro tb gv sd gr row one2 two2 S V hS hV T (telV_bd ht) 6 3 (by omega) (by omega) (by omega) (fun _ => by omega)) yX11_isTried_ok lkX11_187 ivX11_isTried slX11_isTried ⟨rfl, rfl, by decide, by decide⟩ (kX11_byPoints_ok.at 95 rfl) rfl rfl (by decide) rfl rfl rfl (fun _ _ q => by obtain ⟨-, _, rfl⟩ := q; rfl) (fun r9 G1 q => ?_)
      obtain ⟨rfl, row2, rfl⟩ := q
      refine hX.run (oc := []) kX11_byPoints_ok ftX11_ok ctX11_ok xnoc [23] [2, 12, 25, 30, 41, 58, 71] [] 60 ?_
      refine ⟨fun h2 => nxt (Or.inr ⟨T, ht, bI_0.mp h2⟩) _ _ _ _ _ _ _, fun h2 => ?_⟩
      have hb := bI_t h2
      have esp : (bpy S V M 6 3 0) = addM M T := h.trans (bpy_yes (d := 2) ht hb)
      refine hX.callV0 (rest := []) (c_map l (nI S.1) (nI V.1) ns ngr (zl (prm 0)) av2 be2 so ro tb gv sd gr row2 one2 two2 M T hM (fun i hi => ab_jr (telV_bd ht i hi) (by decide)) (det_ne (triB_det hb))) yX11_map_ok lkX11_190 ivX11_map slX11_map ⟨rfl, rfl, by decide, by decide⟩ (kX11_byPoints_ok.at 102 rfl) rfl rfl (by decide) rfl rfl rfl (fun _ _ q => by obtain ⟨_, _, -, -, rfl⟩ := q; rfl) (fun r9 G1 q => ?_)
      obtain ⟨tb2, table3, rfl, q2, rfl⟩ := q
      refine hX.run (oc := []) kX11_byPoints_ok ftX11_ok ctX11_ok xnoc [] [2, 12, 25, 30, 41, 58, 71] [] 60 ?_
      rw [esp]
      exact ⟨tb2, _, av2, be2, row2, table3, one2, two2, rfl, q2, rfl⟩
  refine hX.run (oc := []) kX11_byPoints_ok ftX11_ok ctX11_ok xnoc [23] [2, 12, 25, 30, 41, 58, 71] [] 60 ?_
  exact s0 rfl pp av be row table one two
set_option maxHeartbeats 4000000 in
set_option maxRecDepth 100000 in
theorem c_byPoints7 (l : Launch) (ns ngr : Int32) (pp av be : Int64) (so ro tb gv sd gr : Nat → Int32) (row table one two : Nat → Int64) (S : SO) (V : SV) (M : SM) (hS : RO S so ro) (hV : RV 8 S.1 V gv) (hM : RT 40 M tb) (hpi : ∀ k, k < 3 → pinv (prm k)) (hN : V.1 = 8) : xM l yX11_byPoints cX11_byPoints 4 (some .int) rX11_byPoints [.ref 0, .int (nI 7)] (GR (nI S.1) (nI M.1) (nI V.1) ns ngr pp av be so ro tb gv sd gr row table one two) (fun r G => ∃ tb' pp' av' be' row' table' one' two', r = some (.int (zi (bpy S V M 7 3 0).1)) ∧ RT 40 (bpy S V M 7 3 0).2 tb' ∧ G = GR (nI S.1) (nI (bpy S V M 7 3 0).2.1) (nI V.1) ns ngr pp' av' be' so ro tb' gv sd gr row' table' one' two') := by
  refine xM.of (by decide) (Nat.le_of_ble_eq_true rfl) (fun X hX => ?_)
  have s3 : (bpy S V M 7 3 0) = bpy S V M 7 0 3 → ∀ (pp av be : Int64) (row table one two : Nat → Int64), X 23 [some (.ref 0), some (.int (nI 7)), some (.int (nI 4)), some (.int (nI 3))] [] (GR (nI S.1) (nI M.1) (nI V.1) ns ngr pp av be so ro tb gv sd gr row table one two) := by
    intro h pp av be row table one two
    refine hX.run (oc := []) kX11_byPoints_ok ftX11_ok ctX11_ok xnoc [] [2, 12, 25, 30, 41, 58, 71] [] 60 ?_
    rw [h]
    exact ⟨tb, pp, av, be, row, table, one, two, rfl, hM, rfl⟩
  have s2 : (bpy S V M 7 3 0) = bpy S V M 7 1 2 → ∀ (pp av be : Int64) (row table one two : Nat → Int64), X 23 [some (.ref 0), some (.int (nI 7)), some (.int (nI 4)), some (.int (nI 2))] [] (GR (nI S.1) (nI M.1) (nI V.1) ns ngr pp av be so ro tb gv sd gr row table one two) := by
    intro h pp av be row table one two
    have nxt : telV (prm 2) (bpT 7 (prm 2) S V) = none ∨ (∃ T, telV (prm 2) (bpT 7 (prm 2) S V) = some T ∧ triB S V T 7 4 = false) → ∀ (pp av be : Int64) (row table one two : Nat → Int64), X 23 [some (.ref 0), some (.int (nI 7)), some (.int (nI 4)), some (.int (nI 3))] [] (GR (nI S.1) (nI M.1) (nI V.1) ns ngr pp av be so ro tb gv sd gr row table one two) := by
      intro hc
      exact s3 (h.trans (bpy_no (d := 0) hc))
    refine hX.run (oc := []) kX11_byPoints_ok ftX11_ok ctX11_ok xnoc [] [2, 12, 25, 30, 41, 58, 71] [] 60 ?_
    refine hX.callV0 (rest := []) (c_projective l (nI M.1) ns ngr av be so ro tb gv sd gr row table one two (prm 2) (prm_ok 2) S V hS hV hN) yX11_projective_ok lkX11_181 ivX11_projective slX11_projective ⟨rfl, rfl, by decide, by decide⟩ (kX11_byPoints_ok.at 82 rfl) rfl rfl (by decide) rfl rfl rfl (fun _ _ q => by rw [q.2]; rfl) (fun r9 G1 q => ?_)
    obtain ⟨rfl, rfl⟩ := q
    refine hX.run (oc := []) kX11_byPoints_ok ftX11_ok ctX11_ok xnoc [] [2, 12, 25, 30, 41, 58, 71] [] 60 ?_
    refine hX.callV0 (rest := []) (c_tellBack l (nI S.1) (nI M.1) (nI V.1) ns ngr av be so ro tb gv sd gr row table one two (prm 2) (prm_ok 2) (hpi 2 (by omega)) (bpT 7 (prm 2) S V) (fun i _ => bpT_rz (prm_ok 2) 7 S V i)) yX11_tellBack_ok lkX11_184 ivX11_tellBack slX11_tellBack ⟨rfl, rfl, by decide, by decide⟩ (kX11_byPoints_ok.at 86 rfl) rfl rfl (by decide) rfl rfl rfl (fun _ _ q => by obtain ⟨_, _, _, _, _, -, -, rfl⟩ := q; rfl) (fun r9 G1 q => ?_)
    obtain ⟨av2, be2, table2, one2, two2, rfl, hT, rfl⟩ := q
    cases ht : telV (prm 2) (bpT 7 (prm 2) S V) with
    | none =>
      refine hX.run (oc := []) kX11_byPoints_ok ftX11_ok ctX11_ok xnoc [23] [2, 12, 25, 30, 41, 58, 71, 89] [] 60 ?_
      exact nxt (Or.inl ht) _ _ _ _ _ _ _
    | some T =>
      refine hX.alike (G2 := GR (nI S.1) (nI M.1) (nI V.1) ns ngr (zl (prm 2)) av2 be2 so ro tb gv sd gr row (fun i => zl (T i)) one2 two2) ?_ ⟨xsame_rf _, xsame_rf _, xsame_rf _, xsame_rf _, xsame_rf _, xsame_rf _, xsame_rf _, xsame_rf _, ⟨rfl, fun i hi => ?_⟩, xsame_rf _, xsame_rf _, trivial⟩
      rotate_left
      · exact hT T ht i hi
      refine hX.run (oc := []) kX11_byPoints_ok ftX11_ok ctX11_ok xnoc [23] [2, 12, 25, 30, 41, 58, 71, 89] [] 60 ?_
      refine hX.callV0 (rest := []) (c_isTried l (nI M.1) ns ngr (zl (prm 2)) av2 be2 so ro tb gv sd gr row one2 two2 S V hS hV T (telV_bd ht) 7 4 (by omega) (by omega) (by omega) (fun _ => by omega)) yX11_isTried_ok lkX11_187 ivX11_isTried slX11_isTried ⟨rfl, rfl, by decide, by decide⟩ (kX11_byPoints_ok.at 95 rfl) rfl rfl (by decide) rfl rfl rfl (fun _ _ q => by obtain ⟨-, _, rfl⟩ := q; rfl) (fun r9 G1 q => ?_)
      obtain ⟨rfl, row2, rfl⟩ := q
      refine hX.run (oc := []) kX11_byPoints_ok ftX11_ok ctX11_ok xnoc [23] [2, 12, 25, 30, 41, 58, 71] [] 60 ?_
      refine ⟨fun h2 => nxt (Or.inr ⟨T, ht, bI_0.mp h2⟩) _ _ _ _ _ _ _, fun h2 => ?_⟩
      have hb := bI_t h2
      have esp : (bpy S V M 7 3 0) = addM M T := h.trans (bpy_yes (d := 0) ht hb)
      refine hX.callV0 (rest := []) (c_map l (nI S.1) (nI V.1) ns ngr (zl (prm 2)) av2 be2 so ro tb gv sd gr row2 one2 two2 M T hM (fun i hi => ab_jr (telV_bd ht i hi) (by decide)) (det_ne (triB_det hb))) yX11_map_ok lkX11_190 ivX11_map slX11_map ⟨rfl, rfl, by decide, by decide⟩ (kX11_byPoints_ok.at 102 rfl) rfl rfl (by decide) rfl rfl rfl (fun _ _ q => by obtain ⟨_, _, -, -, rfl⟩ := q; rfl) (fun r9 G1 q => ?_)
      obtain ⟨tb2, table3, rfl, q2, rfl⟩ := q
      refine hX.run (oc := []) kX11_byPoints_ok ftX11_ok ctX11_ok xnoc [] [2, 12, 25, 30, 41, 58, 71] [] 60 ?_
      rw [esp]
      exact ⟨tb2, _, av2, be2, row2, table3, one2, two2, rfl, q2, rfl⟩
  have s1 : (bpy S V M 7 3 0) = bpy S V M 7 2 1 → ∀ (pp av be : Int64) (row table one two : Nat → Int64), X 23 [some (.ref 0), some (.int (nI 7)), some (.int (nI 4)), some (.int (nI 1))] [] (GR (nI S.1) (nI M.1) (nI V.1) ns ngr pp av be so ro tb gv sd gr row table one two) := by
    intro h pp av be row table one two
    have nxt : telV (prm 1) (bpT 7 (prm 1) S V) = none ∨ (∃ T, telV (prm 1) (bpT 7 (prm 1) S V) = some T ∧ triB S V T 7 4 = false) → ∀ (pp av be : Int64) (row table one two : Nat → Int64), X 23 [some (.ref 0), some (.int (nI 7)), some (.int (nI 4)), some (.int (nI 2))] [] (GR (nI S.1) (nI M.1) (nI V.1) ns ngr pp av be so ro tb gv sd gr row table one two) := by
      intro hc
      exact s2 (h.trans (bpy_no (d := 1) hc))
    refine hX.run (oc := []) kX11_byPoints_ok ftX11_ok ctX11_ok xnoc [] [2, 12, 25, 30, 41, 58, 71] [] 60 ?_
    refine hX.callV0 (rest := []) (c_projective l (nI M.1) ns ngr av be so ro tb gv sd gr row table one two (prm 1) (prm_ok 1) S V hS hV hN) yX11_projective_ok lkX11_181 ivX11_projective slX11_projective ⟨rfl, rfl, by decide, by decide⟩ (kX11_byPoints_ok.at 82 rfl) rfl rfl (by decide) rfl rfl rfl (fun _ _ q => by rw [q.2]; rfl) (fun r9 G1 q => ?_)
    obtain ⟨rfl, rfl⟩ := q
    refine hX.run (oc := []) kX11_byPoints_ok ftX11_ok ctX11_ok xnoc [] [2, 12, 25, 30, 41, 58, 71] [] 60 ?_
    refine hX.callV0 (rest := []) (c_tellBack l (nI S.1) (nI M.1) (nI V.1) ns ngr av be so ro tb gv sd gr row table one two (prm 1) (prm_ok 1) (hpi 1 (by omega)) (bpT 7 (prm 1) S V) (fun i _ => bpT_rz (prm_ok 1) 7 S V i)) yX11_tellBack_ok lkX11_184 ivX11_tellBack slX11_tellBack ⟨rfl, rfl, by decide, by decide⟩ (kX11_byPoints_ok.at 86 rfl) rfl rfl (by decide) rfl rfl rfl (fun _ _ q => by obtain ⟨_, _, _, _, _, -, -, rfl⟩ := q; rfl) (fun r9 G1 q => ?_)
    obtain ⟨av2, be2, table2, one2, two2, rfl, hT, rfl⟩ := q
    cases ht : telV (prm 1) (bpT 7 (prm 1) S V) with
    | none =>
      refine hX.run (oc := []) kX11_byPoints_ok ftX11_ok ctX11_ok xnoc [23] [2, 12, 25, 30, 41, 58, 71, 89] [] 60 ?_
      exact nxt (Or.inl ht) _ _ _ _ _ _ _
    | some T =>
      refine hX.alike (G2 := GR (nI S.1) (nI M.1) (nI V.1) ns ngr (zl (prm 1)) av2 be2 so ro tb gv sd gr row (fun i => zl (T i)) one2 two2) ?_ ⟨xsame_rf _, xsame_rf _, xsame_rf _, xsame_rf _, xsame_rf _, xsame_rf _, xsame_rf _, xsame_rf _, ⟨rfl, fun i hi => ?_⟩, xsame_rf _, xsame_rf _, trivial⟩
      rotate_left
      · exact hT T ht i hi
      refine hX.run (oc := []) kX11_byPoints_ok ftX11_ok ctX11_ok xnoc [23] [2, 12, 25, 30, 41, 58, 71, 89] [] 60 ?_
      refine hX.callV0 (rest := []) (c_isTried l (nI M.1) ns ngr (zl (prm 1)) av2 be2 so ro tb gv sd gr row one2 two2 S V hS hV T (telV_bd ht) 7 4 (by omega) (by omega) (by omega) (fun _ => by omega)) yX11_isTried_ok lkX11_187 ivX11_isTried slX11_isTried ⟨rfl, rfl, by decide, by decide⟩ (kX11_byPoints_ok.at 95 rfl) rfl rfl (by decide) rfl rfl rfl (fun _ _ q => by obtain ⟨-, _, rfl⟩ := q; rfl) (fun r9 G1 q => ?_)
      obtain ⟨rfl, row2, rfl⟩ := q
      refine hX.run (oc := []) kX11_byPoints_ok ftX11_ok ctX11_ok xnoc [23] [2, 12, 25, 30, 41, 58, 71] [] 60 ?_
      refine ⟨fun h2 => nxt (Or.inr ⟨T, ht, bI_0.mp h2⟩) _ _ _ _ _ _ _, fun h2 => ?_⟩
      have hb := bI_t h2
      have esp : (bpy S V M 7 3 0) = addM M T := h.trans (bpy_yes (d := 1) ht hb)
      refine hX.callV0 (rest := []) (c_map l (nI S.1) (nI V.1) ns ngr (zl (prm 1)) av2 be2 so ro tb gv sd gr row2 one2 two2 M T hM (fun i hi => ab_jr (telV_bd ht i hi) (by decide)) (det_ne (triB_det hb))) yX11_map_ok lkX11_190 ivX11_map slX11_map ⟨rfl, rfl, by decide, by decide⟩ (kX11_byPoints_ok.at 102 rfl) rfl rfl (by decide) rfl rfl rfl (fun _ _ q => by obtain ⟨_, _, -, -, rfl⟩ := q; rfl) (fun r9 G1 q => ?_)
      obtain ⟨tb2, table3, rfl, q2, rfl⟩ := q
      refine hX.run (oc := []) kX11_byPoints_ok ftX11_ok ctX11_ok xnoc [] [2, 12, 25, 30, 41, 58, 71] [] 60 ?_
      rw [esp]
      exact ⟨tb2, _, av2, be2, row2, table3, one2, two2, rfl, q2, rfl⟩
  have s0 : (bpy S V M 7 3 0) = bpy S V M 7 3 0 → ∀ (pp av be : Int64) (row table one two : Nat → Int64), X 23 [some (.ref 0), some (.int (nI 7)), some (.int (nI 4)), some (.int (nI 0))] [] (GR (nI S.1) (nI M.1) (nI V.1) ns ngr pp av be so ro tb gv sd gr row table one two) := by
    intro h pp av be row table one two
    have nxt : telV (prm 0) (bpT 7 (prm 0) S V) = none ∨ (∃ T, telV (prm 0) (bpT 7 (prm 0) S V) = some T ∧ triB S V T 7 4 = false) → ∀ (pp av be : Int64) (row table one two : Nat → Int64), X 23 [some (.ref 0), some (.int (nI 7)), some (.int (nI 4)), some (.int (nI 1))] [] (GR (nI S.1) (nI M.1) (nI V.1) ns ngr pp av be so ro tb gv sd gr row table one two) := by
      intro hc
      exact s1 (h.trans (bpy_no (d := 2) hc))
    refine hX.run (oc := []) kX11_byPoints_ok ftX11_ok ctX11_ok xnoc [] [2, 12, 25, 30, 41, 58, 71] [] 60 ?_
    refine hX.callV0 (rest := []) (c_projective l (nI M.1) ns ngr av be so ro tb gv sd gr row table one two (prm 0) (prm_ok 0) S V hS hV hN) yX11_projective_ok lkX11_181 ivX11_projective slX11_projective ⟨rfl, rfl, by decide, by decide⟩ (kX11_byPoints_ok.at 82 rfl) rfl rfl (by decide) rfl rfl rfl (fun _ _ q => by rw [q.2]; rfl) (fun r9 G1 q => ?_)
    obtain ⟨rfl, rfl⟩ := q
    refine hX.run (oc := []) kX11_byPoints_ok ftX11_ok ctX11_ok xnoc [] [2, 12, 25, 30, 41, 58, 71] [] 60 ?_
    refine hX.callV0 (rest := []) (c_tellBack l (nI S.1) (nI M.1) (nI V.1) ns ngr av be so ro tb gv sd gr row table one two (prm 0) (prm_ok 0) (hpi 0 (by omega)) (bpT 7 (prm 0) S V) (fun i _ => bpT_rz (prm_ok 0) 7 S V i)) yX11_tellBack_ok lkX11_184 ivX11_tellBack slX11_tellBack ⟨rfl, rfl, by decide, by decide⟩ (kX11_byPoints_ok.at 86 rfl) rfl rfl (by decide) rfl rfl rfl (fun _ _ q => by obtain ⟨_, _, _, _, _, -, -, rfl⟩ := q; rfl) (fun r9 G1 q => ?_)
    obtain ⟨av2, be2, table2, one2, two2, rfl, hT, rfl⟩ := q
    cases ht : telV (prm 0) (bpT 7 (prm 0) S V) with
    | none =>
      refine hX.run (oc := []) kX11_byPoints_ok ftX11_ok ctX11_ok xnoc [23] [2, 12, 25, 30, 41, 58, 71, 89] [] 60 ?_
      exact nxt (Or.inl ht) _ _ _ _ _ _ _
    | some T =>
      refine hX.alike (G2 := GR (nI S.1) (nI M.1) (nI V.1) ns ngr (zl (prm 0)) av2 be2 so ro tb gv sd gr row (fun i => zl (T i)) one2 two2) ?_ ⟨xsame_rf _, xsame_rf _, xsame_rf _, xsame_rf _, xsame_rf _, xsame_rf _, xsame_rf _, xsame_rf _, ⟨rfl, fun i hi => ?_⟩, xsame_rf _, xsame_rf _, trivial⟩
      rotate_left
      · exact hT T ht i hi
      refine hX.run (oc := []) kX11_byPoints_ok ftX11_ok ctX11_ok xnoc [23] [2, 12, 25, 30, 41, 58, 71, 89] [] 60 ?_
      refine hX.callV0 (rest := []) (c_isTried l (nI M.1) ns ngr (zl (prm 0)) av2 be2 so ro tb gv sd gr row one2 two2 S V hS hV T (telV_bd ht) 7 4 (by omega) (by omega) (by omega) (fun _ => by omega)) yX11_isTried_ok lkX11_187 ivX11_isTried slX11_isTried ⟨rfl, rfl, by decide, by decide⟩ (kX11_byPoints_ok.at 95 rfl) rfl rfl (by decide) rfl rfl rfl (fun _ _ q => by obtain ⟨-, _, rfl⟩ := q; rfl) (fun r9 G1 q => ?_)
      obtain ⟨rfl, row2, rfl⟩ := q
      refine hX.run (oc := []) kX11_byPoints_ok ftX11_ok ctX11_ok xnoc [23] [2, 12, 25, 30, 41, 58, 71] [] 60 ?_
      refine ⟨fun h2 => nxt (Or.inr ⟨T, ht, bI_0.mp h2⟩) _ _ _ _ _ _ _, fun h2 => ?_⟩
      have hb := bI_t h2
      have esp : (bpy S V M 7 3 0) = addM M T := h.trans (bpy_yes (d := 2) ht hb)
      refine hX.callV0 (rest := []) (c_map l (nI S.1) (nI V.1) ns ngr (zl (prm 0)) av2 be2 so ro tb gv sd gr row2 one2 two2 M T hM (fun i hi => ab_jr (telV_bd ht i hi) (by decide)) (det_ne (triB_det hb))) yX11_map_ok lkX11_190 ivX11_map slX11_map ⟨rfl, rfl, by decide, by decide⟩ (kX11_byPoints_ok.at 102 rfl) rfl rfl (by decide) rfl rfl rfl (fun _ _ q => by obtain ⟨_, _, -, -, rfl⟩ := q; rfl) (fun r9 G1 q => ?_)
      obtain ⟨tb2, table3, rfl, q2, rfl⟩ := q
      refine hX.run (oc := []) kX11_byPoints_ok ftX11_ok ctX11_ok xnoc [] [2, 12, 25, 30, 41, 58, 71] [] 60 ?_
      rw [esp]
      exact ⟨tb2, _, av2, be2, row2, table3, one2, two2, rfl, q2, rfl⟩
  refine hX.run (oc := []) kX11_byPoints_ok ftX11_ok ctX11_ok xnoc [23] [2, 12, 25, 30, 41, 58, 71] [] 60 ?_
  exact s0 rfl pp av be row table one two
def mkB (S : SO) (V : SV) (k : Nat) (u v : Int) : Bool := if k = 2 then mirB S V else if k = 4 then gliB S V v else if k = 8 then anyB S V else if k < 4 then simB S V k u v else mayB S V k
def mkT (S : SO) (V : SV) (k : Nat) (u v : Int) : Nat → Int := if k = 2 then mirT (gq S V 0) else if k = 4 then mul9 (gliO (gq S V 0) u v) (mirT (gq S V 0)) else if k = 8 then anyT S V else simT k (gq S V 0) u v
def mkM (S : SO) (V : SV) (M : SM) (k : Nat) (u v : Int) : Int × SM := if mkB S V k u v then (if 4 < k ∧ k < 8 then bpy S V M k 3 0 else addM M (mkT S V k u v)) else (-3, M)
def sp_make (S : SS) (k u v : Int) : Int × SS := if (0 ≤ k ∧ k ≤ 8) ∧ (-1000 ≤ u ∧ u ≤ 1000) ∧ (-1000 ≤ v ∧ v ≤ 1000) then ((mkM S.1 S.2.2.1 S.2.1 k.toNat u v).1, (S.1, (mkM S.1 S.2.2.1 S.2.1 k.toNat u v).2, (0, S.2.2.1.2), S.2.2.2)) else (-2, S)
theorem t9_bd {a b c d e f g h k A : Int} (h0 : ab a A) (h1 : ab b A) (h2 : ab c A) (h3 : ab d A) (h4 : ab e A) (h5 : ab f A) (h6 : ab g A) (h7 : ab h A) (h8 : ab k A) (i : Nat) : ab (t9 a b c d e f g h k i) A := by
  unfold t9
  repeat' split
  all_goals assumption
theorem mirT_bd {q : Nat → Int} (hq : ∀ i, i < 3 → ab (q i) 500) (i : Nat) : ab (mirT q i) 1000000 := by
  have m2 : ab (-2 : Int) 2 := ⟨by omega, by omega⟩
  have z : ab (0 : Int) 1000000 := ⟨by omega, by omega⟩
  have sq : ∀ a b, a < 3 → b < 3 → ab (q a * q b) 250000 := fun a b ha hb => ab_le (ab_mul (hq a ha) (hq b hb)) (by decide)
  have dq : ∀ a b, a < 3 → b < 3 → ab (-2 * q a * q b) 1000000 := fun a b ha hb => ab_le (ab_mul (ab_mul m2 (hq a ha)) (hq b hb)) (by decide)
  unfold mirT
  exact t9_bd (ab_le (ab_sub (sq 1 1 (by omega) (by omega)) (sq 0 0 (by omega) (by omega))) (by decide)) (dq 0 1 (by omega) (by omega)) (dq 0 2 (by omega) (by omega)) (dq 0 1 (by omega) (by omega)) (ab_le (ab_sub (sq 0 0 (by omega) (by omega)) (sq 1 1 (by omega) (by omega))) (by decide)) (dq 1 2 (by omega) (by omega)) z z (ab_le (ab_add (sq 0 0 (by omega) (by omega)) (sq 1 1 (by omega) (by omega))) (by decide)) i
theorem simT_bd {q : Nat → Int} (hq : ∀ i, i < 3 → ab (q i) 500) {u v : Int} (hu : ab u 1000) (hv : ab v 1000) (k i : Nat) : ab (simT k q u v i) 10000000000 := by
  have z : ab (0 : Int) 10000000000 := ⟨by omega, by omega⟩
  have b : ∀ t, t < 3 → ab (q t) 10000000000 := fun t ht => ab_le (hq t ht) (by decide)
  have uu : ab (u * u + v * v) 2000000 := ab_le (ab_add (ab_mul hu hu) (ab_mul hv hv)) (by decide)
  have cc : ab (u * u - v * v) 2000000 := ab_le (ab_sub (ab_mul hu hu) (ab_mul hv hv)) (by decide)
  have ss : ab (2 * u * v) 2000000 := ab_le (ab_mul (ab_mul (A := 2) ⟨by omega, by omega⟩ hu) hv) (by decide)
  have vu : ab (v - u) 2000 := ab_le (ab_sub hv hu) (by decide)
  unfold simT
  split
  · exact t9_bd (b 2 (by omega)) z (b 0 (by omega)) z (b 2 (by omega)) (b 1 (by omega)) z z (b 2 (by omega)) i
  · split
    · exact t9_bd (ab_le (ab_mul hu (hq 2 (by omega))) (by decide)) z (ab_le (ab_mul (hq 0 (by omega)) vu) (by decide)) z (ab_le (ab_mul hu (hq 2 (by omega))) (by decide)) (ab_le (ab_mul (hq 1 (by omega)) vu) (by decide)) z z (ab_le (ab_mul hv (hq 2 (by omega))) (by decide)) i
    · exact t9_bd (ab_le (ab_mul cc (hq 2 (by omega))) (by decide)) (ab_le (ab_mul (ab_neg ss) (hq 2 (by omega))) (by decide)) (ab_le (ab_add (ab_sub (ab_mul (hq 0 (by omega)) uu) (ab_mul cc (hq 0 (by omega)))) (ab_mul ss (hq 1 (by omega)))) (by decide)) (ab_le (ab_mul ss (hq 2 (by omega))) (by decide)) (ab_le (ab_mul cc (hq 2 (by omega))) (by decide)) (ab_le (ab_sub (ab_sub (ab_mul (hq 1 (by omega)) uu) (ab_mul ss (hq 0 (by omega)))) (ab_mul cc (hq 1 (by omega)))) (by decide)) z z (ab_le (ab_mul uu (hq 2 (by omega))) (by decide)) i
theorem gliO_bd {q : Nat → Int} (hq : ∀ i, i < 3 → ab (q i) 500) {u v : Int} (hu : ab u 1000) (hv : ab v 1000) (i : Nat) : ab (gliO q u v i) 500000 := by
  have z : ab (0 : Int) 500000 := ⟨by omega, by omega⟩
  have v5 := ab_le (B := 500000) hv (by decide)
  unfold gliO
  exact t9_bd v5 z (ab_le (ab_mul (ab_neg hu) (hq 1 (by omega))) (by decide)) z v5 (ab_le (ab_mul hu (hq 0 (by omega))) (by decide)) z z v5 i
theorem sq_pos {a b : Int} (h : ¬ (a = 0 ∧ b = 0)) : a * a + b * b ≠ 0 := by
  intro q
  have h1 : 0 ≤ a * a := by by_cases h : 0 ≤ a; · exact Int.mul_nonneg h h
                            · rw [← Int.neg_mul_neg]; exact Int.mul_nonneg (by omega) (by omega)
  have h2 : 0 ≤ b * b := by by_cases h : 0 ≤ b; · exact Int.mul_nonneg h h
                            · rw [← Int.neg_mul_neg]; exact Int.mul_nonneg (by omega) (by omega)
  have h3 : a * a = 0 := by omega
  have h4 : b * b = 0 := by omega
  exact h ⟨(Int.mul_eq_zero.mp h3).elim id id, (Int.mul_eq_zero.mp h4).elim id id⟩
theorem mirT_det (q : Nat → Int) : det9 (mirT q) = -((q 0 * q 0 + q 1 * q 1) * (q 0 * q 0 + q 1 * q 1) * (q 0 * q 0 + q 1 * q 1)) := by
  simp only [det9, mirT, t9]
  simp
  grind
theorem det_t9 (a b c d e f k : Int) : det9 (t9 a b c d e f 0 0 k) = k * (a * e - b * d) := by
  simp only [det9, t9]
  simp
  grind
theorem gliO_det (q : Nat → Int) (u v : Int) : det9 (gliO q u v) = v * v * v := by
  unfold gliO
  rw [det_t9]
  grind
theorem sim0_det (q : Nat → Int) (u v : Int) : det9 (simT 0 q u v) = q 2 * q 2 * q 2 := by
  unfold simT
  rw [if_pos rfl, det_t9]
  grind
theorem sim3_det (q : Nat → Int) (u v : Int) : det9 (simT 3 q u v) = u * u * v * (q 2 * q 2 * q 2) := by
  unfold simT
  rw [if_neg (by omega), if_pos rfl, det_t9]
  grind
theorem sim1_det {k : Nat} (h0 : ¬ k = 0) (h3 : ¬ k = 3) (q : Nat → Int) (u v : Int) : det9 (simT k q u v) = (u * u + v * v) * (u * u + v * v) * (u * u + v * v) * (q 2 * q 2 * q 2) := by
  unfold simT
  rw [if_neg h0, if_neg h3, det_t9]
  grind
theorem mkT_det {S : SO} {V : SV} {k : Nat} {u v : Int} (hk : ¬ (4 < k ∧ k < 8)) (hk8 : k ≤ 8) (h : mkB S V k u v = true) : det9 (mkT S V k u v) ≠ 0 := by
  have mir : mirB S V = true → det9 (mirT (gq S V 0)) ≠ 0 := by
    intro hm
    unfold mirB at hm
    simp only [Bool.and_eq_true, Bool.not_eq_true'] at hm
    have hs := (givB_1 hm.1).2 0 (by omega)
    have hf := hm.2
    unfold farB at hf
    rw [if_pos hs] at hf
    have hn := sq_pos (of_decide_eq_false hf)
    rw [mirT_det]
    have := Int.mul_ne_zero (Int.mul_ne_zero hn hn) hn
    omega
  unfold mkB at h
  unfold mkT
  split at h
  · next e => rw [if_pos e]; exact mir h
  next e2 =>
  rw [if_neg e2]
  split at h
  · next e =>
    rw [if_pos e, tdet, gliO_det]
    unfold gliB at h
    simp only [Bool.and_eq_true, decide_eq_true_eq] at h
    exact Int.mul_ne_zero (Int.mul_ne_zero (Int.mul_ne_zero h.2 h.2) h.2) (mir h.1)
  next e4 =>
  rw [if_neg e4]
  split at h
  · next e =>
    rw [if_pos e]
    unfold anyB at h
    simp only [Bool.and_eq_true, decide_eq_true_eq] at h
    exact h.2
  next e8 =>
  rw [if_neg e8]
  split at h
  · next e =>
    unfold simB at h
    simp only [Bool.and_eq_true, Bool.not_eq_true'] at h
    have hs := (givB_1 h.1.1).2 0 (by omega)
    have hf := h.1.2
    unfold farB at hf
    rw [if_neg (by omega)] at hf
    have hw : gq S V 0 2 ≠ 0 := of_decide_eq_false hf
    have hw3 := Int.mul_ne_zero (Int.mul_ne_zero hw hw) hw
    have hu := h.2
    unfold simU at hu
    by_cases k0 : k = 0
    · subst k0; rw [sim0_det]; exact hw3
    rw [if_neg k0] at hu
    by_cases k3 : k = 3
    · subst k3
      rw [if_pos rfl] at hu
      have := of_decide_eq_true hu
      rw [sim3_det]
      exact Int.mul_ne_zero (Int.mul_ne_zero (Int.mul_ne_zero this.1 this.1) this.2) hw3
    · rw [if_neg k3] at hu
      have := of_decide_eq_true hu
      rw [sim1_det k0 k3]
      exact Int.mul_ne_zero (Int.mul_ne_zero (Int.mul_ne_zero this this) this) hw3
  · next e => omega
theorem mkT_jr {S : SO} {V : SV} {so ro gv : Nat → Int32} (hS : RO S so ro) (hV : RV 8 S.1 V gv) {k : Nat} {u v : Int} (hu : ab u 1000) (hv : ab v 1000) (hk : ¬ (4 < k ∧ k < 8)) (hk8 : k ≤ 8) (h : mkB S V k u v = true) (i : Nat) (hi : i < 9) : jr (mkT S V k u v i) := by
  have g1 : ∀ n s, givB S V n s = true → ∀ i, i < n → ∀ t, t < 3 → ab (gq S V i t) 500 := fun n s hg i hi t ht => gq_bd hS hV (by have := (givB_1 hg).1; omega) ht
  unfold mkB at h
  unfold mkT
  split at h
  · next e =>
    rw [if_pos e]
    unfold mirB at h
    simp only [Bool.and_eq_true] at h
    exact ab_jr (mirT_bd (g1 1 1 h.1 0 (by omega)) i) (by decide)
  next e2 =>
  rw [if_neg e2]
  split at h
  · next e =>
    rw [if_pos e]
    unfold gliB mirB at h
    simp only [Bool.and_eq_true] at h
    exact ab_jr (mul9_bd2 (fun i _ => gliO_bd (g1 1 1 h.1.1 0 (by omega)) hu hv i) (fun i _ => mirT_bd (g1 1 1 h.1.1 0 (by omega)) i) i hi) (by decide)
  next e4 =>
  rw [if_neg e4]
  split at h
  · next e =>
    rw [if_pos e]
    unfold anyB at h
    simp only [Bool.and_eq_true] at h
    exact ab_jr (g1 3 1 h.1 (i / 3) (by omega) (i % 3) (Nat.mod_lt _ (by omega))) (by decide)
  next e8 =>
  rw [if_neg e8]
  split at h
  · unfold simB at h
    simp only [Bool.and_eq_true] at h
    exact ab_jr (simT_bd (g1 1 0 h.1.1 0 (by omega)) hu hv k i) (by decide)
  · omega
theorem bpy_le (S : SO) (V : SV) (M : SM) (kd : Nat) : ∀ d k, M.1 ≤ (bpy S V M kd d k).2.1
  | 0, k => Nat.le_refl _
  | d + 1, k => by
    unfold bpy
    split
    · split
      · exact addM_le _ _
      · exact bpy_le S V M kd d (k + 1)
    · exact bpy_le S V M kd d (k + 1)
theorem mkM_le (S : SO) (V : SV) (M : SM) (k : Nat) (u v : Int) : M.1 ≤ (mkM S V M k u v).2.1 := by
  unfold mkM
  split
  · split
    · exact bpy_le _ _ _ _ _ _
    · exact addM_le _ _
  · exact Nat.le_refl _
set_option maxHeartbeats 4000000 in
set_option maxRecDepth 100000 in
theorem r_make (l : Launch) (S : SS) (G0 : List xE) (hG : RInv S G0) (hpi : ∀ k, k < 3 → pinv (prm k)) (k0 u0 v0 : Int32) : xM l yX11_make cX11_make 6 (some .int) rX11_make [.ref 0, .int k0, .int u0, .int v0] G0 (fun r G => r = some (.int (zi (sp_make S k0.toInt u0.toInt v0.toInt).1)) ∧ RInv (sp_make S k0.toInt u0.toInt v0.toInt).2 G) := by
  have hG9 := hG
  obtain ⟨pp, av, be, so, ro, tb, gv, sd, gr, row, table, one, two, rfl, hro, hrt, hrv, hrs, hrg, hr1⟩ := hG
  refine xM.of (by decide) (Nat.le_of_ble_eq_true rfl) (fun X hX => ?_)
  have hoc := xoc1 (oIn_ok hX (by decide)) xnoc
  have inq : ∀ (x : Int32) (a b : Int), jr a → jr b → ((zl a ≤ x.toInt64 ∧ x.toInt64 ≤ zl b) ↔ (a ≤ x.toInt ∧ x.toInt ≤ b)) := fun x a b ja jb => by
    rw [i64, zl_le ja (i32_jr x), zl_le (i32_jr x) jb]
  have ik := inq k0 0 8 ⟨by omega, by omega⟩ ⟨by omega, by omega⟩
  have iu := inq u0 (-1000) 1000 ⟨by omega, by omega⟩ ⟨by omega, by omega⟩
  have iv := inq v0 (-1000) 1000 ⟨by omega, by omega⟩ ⟨by omega, by omega⟩
  have bad : ¬ ((0 ≤ k0.toInt ∧ k0.toInt ≤ 8) ∧ (-1000 ≤ u0.toInt ∧ u0.toInt ≤ 1000) ∧ (-1000 ≤ v0.toInt ∧ v0.toInt ≤ 1000)) → some (Value.int (Int8.ofInt (-2)).toInt32) = some (.int (zi (sp_make S k0.toInt u0.toInt v0.toInt).1)) ∧ RInv (sp_make S k0.toInt u0.toInt v0.toInt).2 (GR (nI S.1.1) (nI S.2.1.1) (nI S.2.2.1.1) (nI S.2.2.2.1.1) (nI S.2.2.2.2.1) pp av be so ro tb gv sd gr row table one two) := by
    intro h
    have e : sp_make S k0.toInt u0.toInt v0.toInt = (-2, S) := by unfold sp_make; rw [if_neg h]
    rw [e]
    exact ⟨rfl, hG9⟩
  refine hX.run (oc := [(125, oIn)]) kX11_make_ok ftX11_ok ctX11_ok hoc [43] [9, 23, 37] [] 60 ?_
  refine ⟨fun h1 => ?_, fun h1 => bad (fun q => h1 (ik.mpr q.1))⟩
  refine ⟨fun h2 => ?_, fun h2 => bad (fun q => h2 (iu.mpr q.2.1))⟩
  refine ⟨fun h3 => ?_, fun h3 => bad (fun q => h3 (iv.mpr q.2.2))⟩
  have gk := ik.mp h1
  have hu : ab u0.toInt 1000 := iu.mp h2
  have hv : ab v0.toInt 1000 := iv.mp h3
  obtain ⟨k, rfl, hk⟩ : ∃ k : Nat, k0 = nI k ∧ k0.toInt = k := ⟨k0.toInt.toNat, nI_of_int (by omega) (by omega), by omega⟩
  have hk8 : k ≤ 8 := by omega
  have esp : sp_make S (nI k).toInt u0.toInt v0.toInt = ((mkM S.1 S.2.2.1 S.2.1 k u0.toInt v0.toInt).1, (S.1, (mkM S.1 S.2.2.1 S.2.1 k u0.toInt v0.toInt).2, (0, S.2.2.1.2), S.2.2.2)) := by
    unfold sp_make
    rw [if_pos ⟨gk, hu, hv⟩, hk]; rfl
  have fin : ∀ (w : Int32) (tb : Nat → Int32) (pp av be : Int64) (row table one two : Nat → Int64), w = zi (mkM S.1 S.2.2.1 S.2.1 k u0.toInt v0.toInt).1 → RT 40 (mkM S.1 S.2.2.1 S.2.1 k u0.toInt v0.toInt).2 tb → X 141 [some (.ref 0), some (.int (nI k)), some (.int u0), some (.int v0), none, none] [.int w] (GR (nI S.1.1) (nI (mkM S.1 S.2.2.1 S.2.1 k u0.toInt v0.toInt).2.1) (nI S.2.2.1.1) (nI S.2.2.2.1.1) (nI S.2.2.2.2.1) pp av be so ro tb gv sd gr row table one two) := by
    rintro _ tb pp av be row table one two rfl hT
    refine hX.run (oc := [(125, oIn)]) kX11_make_ok ftX11_ok ctX11_ok hoc [] [9, 23, 37, 45, 57, 74, 86, 120, 126] [] 60 ?_
    rw [esp]
    refine ⟨rfl, pp, av, be, so, ro, tb, gv, sd, gr, row, table, one, two, rfl, hro, hT, ⟨by show 0 ≤ 8; omega, fun k hk => absurd hk (Nat.not_lt_zero k)⟩, hrs.more (mkM_le _ _ _ _ _ _), hrg, hr1⟩
  clear bad hG9 ik iu iv inq h1 h2 h3
  rcases (show k = 0 ∨ k = 1 ∨ k = 2 ∨ k = 3 ∨ k = 4 ∨ k = 5 ∨ k = 6 ∨ k = 7 ∨ k = 8 by omega) with rfl | rfl | rfl | rfl | rfl | rfl | rfl | rfl | rfl
  · refine hX.run (oc := [(125, oIn)]) kX11_make_ok ftX11_ok ctX11_ok hoc [] [9, 23, 37, 45, 57, 74, 86, 120, 126] [] 60 ?_
    refine hX.callV0 (rest := []) (c_simple l (nI S.2.1.1) (nI S.2.2.2.1.1) (nI S.2.2.2.2.1) pp av be so ro tb gv sd gr row table one two S.1 S.2.2.1 hro hrv 0 (by omega) u0.toInt v0.toInt hu hv) yX11_simple_ok lkX11_207 ivX11_simple slX11_simple ⟨rfl, rfl, by decide, by decide⟩ (kX11_make_ok.at 95 rfl) rfl rfl (by decide) rfl rfl rfl (fun _ _ q => by obtain ⟨_, _, _, -, -, rfl⟩ := q; rfl) (fun r9 G1 q => ?_)
    obtain ⟨table2, one2, two2, rfl, hT, rfl⟩ := q
    refine hX.run (oc := [(125, oIn)]) kX11_make_ok ftX11_ok ctX11_ok hoc [141] [9, 23, 37, 45, 57, 74, 86, 120, 126] [] 60 ?_
    refine ⟨fun h => ?_, fun h => ?_⟩
    · have e : (mkM S.1 S.2.2.1 S.2.1 0 u0.toInt v0.toInt) = (-3, S.2.1) := by
        unfold mkM
        rw [show mkB S.1 S.2.2.1 0 u0.toInt v0.toInt = false from bI_0.mp h]; rfl
      have z := fin (zi (-3)) tb pp av be row table2 one2 two2 (by rw [e]) (by rw [e]; exact hrt)
      rw [e] at z
      refine hX.less z ?_
      exact ⟨rfl, rfl, rfl, rfl, trivial⟩
    · have hb : mkB S.1 S.2.2.1 0 u0.toInt v0.toInt = true := bI_t h
      have hT2 : ∀ i, i < 9 → table2 i = zl ((mkT S.1 S.2.2.1 0 u0.toInt v0.toInt) i) := hT (bI_t h)
      have e : (mkM S.1 S.2.2.1 S.2.1 0 u0.toInt v0.toInt) = addM S.2.1 (mkT S.1 S.2.2.1 0 u0.toInt v0.toInt) := by
        unfold mkM
        rw [hb]; rfl
      refine hX.alike (G2 := GR (nI S.1.1) (nI S.2.1.1) (nI S.2.2.1.1) (nI S.2.2.2.1.1) (nI S.2.2.2.2.1) pp av be so ro tb gv sd gr row (fun i => zl ((mkT S.1 S.2.2.1 0 u0.toInt v0.toInt) i)) one2 two2) ?_ ⟨xsame_rf _, xsame_rf _, xsame_rf _, xsame_rf _, xsame_rf _, xsame_rf _, xsame_rf _, xsame_rf _, ⟨rfl, fun i hi => ?_⟩, xsame_rf _, xsame_rf _, trivial⟩
      rotate_left
      · exact hT2 i hi
      refine hX.callV0 (rest := []) (c_map l (nI S.1.1) (nI S.2.2.1.1) (nI S.2.2.2.1.1) (nI S.2.2.2.2.1) pp av be so ro tb gv sd gr row one2 two2 S.2.1 (mkT S.1 S.2.2.1 0 u0.toInt v0.toInt) hrt (fun i hi => mkT_jr hro hrv hu hv (by omega) (by omega) hb i hi) (det_ne (mkT_det (by omega) (by omega) hb))) yX11_map_ok lkX11_190 ivX11_map slX11_map ⟨rfl, rfl, by decide, by decide⟩ (kX11_make_ok.at 138 rfl) rfl rfl (by decide) rfl rfl rfl (fun _ _ q => by obtain ⟨_, _, -, -, rfl⟩ := q; rfl) (fun r9 G1 q => ?_)
      obtain ⟨tb2, table3, rfl, q2, rfl⟩ := q
      have z := fin (zi (addM S.2.1 (mkT S.1 S.2.2.1 0 u0.toInt v0.toInt)).1) tb2 pp av be row table3 one2 two2 (by rw [e]) (by rw [e]; exact q2)
      rw [e] at z
      refine hX.less z ?_
      exact ⟨rfl, rfl, rfl, rfl, trivial⟩
  · refine hX.run (oc := [(125, oIn)]) kX11_make_ok ftX11_ok ctX11_ok hoc [] [9, 23, 37, 45, 57, 74, 86, 120, 126] [] 60 ?_
    refine hX.callV0 (rest := []) (c_simple l (nI S.2.1.1) (nI S.2.2.2.1.1) (nI S.2.2.2.2.1) pp av be so ro tb gv sd gr row table one two S.1 S.2.2.1 hro hrv 1 (by omega) u0.toInt v0.toInt hu hv) yX11_simple_ok lkX11_207 ivX11_simple slX11_simple ⟨rfl, rfl, by decide, by decide⟩ (kX11_make_ok.at 95 rfl) rfl rfl (by decide) rfl rfl rfl (fun _ _ q => by obtain ⟨_, _, _, -, -, rfl⟩ := q; rfl) (fun r9 G1 q => ?_)
    obtain ⟨table2, one2, two2, rfl, hT, rfl⟩ := q
    refine hX.run (oc := [(125, oIn)]) kX11_make_ok ftX11_ok ctX11_ok hoc [141] [9, 23, 37, 45, 57, 74, 86, 120, 126] [] 60 ?_
    refine ⟨fun h => ?_, fun h => ?_⟩
    · have e : (mkM S.1 S.2.2.1 S.2.1 1 u0.toInt v0.toInt) = (-3, S.2.1) := by
        unfold mkM
        rw [show mkB S.1 S.2.2.1 1 u0.toInt v0.toInt = false from bI_0.mp h]; rfl
      have z := fin (zi (-3)) tb pp av be row table2 one2 two2 (by rw [e]) (by rw [e]; exact hrt)
      rw [e] at z
      refine hX.less z ?_
      exact ⟨rfl, rfl, rfl, rfl, trivial⟩
    · have hb : mkB S.1 S.2.2.1 1 u0.toInt v0.toInt = true := bI_t h
      have hT2 : ∀ i, i < 9 → table2 i = zl ((mkT S.1 S.2.2.1 1 u0.toInt v0.toInt) i) := hT (bI_t h)
      have e : (mkM S.1 S.2.2.1 S.2.1 1 u0.toInt v0.toInt) = addM S.2.1 (mkT S.1 S.2.2.1 1 u0.toInt v0.toInt) := by
        unfold mkM
        rw [hb]; rfl
      refine hX.alike (G2 := GR (nI S.1.1) (nI S.2.1.1) (nI S.2.2.1.1) (nI S.2.2.2.1.1) (nI S.2.2.2.2.1) pp av be so ro tb gv sd gr row (fun i => zl ((mkT S.1 S.2.2.1 1 u0.toInt v0.toInt) i)) one2 two2) ?_ ⟨xsame_rf _, xsame_rf _, xsame_rf _, xsame_rf _, xsame_rf _, xsame_rf _, xsame_rf _, xsame_rf _, ⟨rfl, fun i hi => ?_⟩, xsame_rf _, xsame_rf _, trivial⟩
      rotate_left
      · exact hT2 i hi
      refine hX.callV0 (rest := []) (c_map l (nI S.1.1) (nI S.2.2.1.1) (nI S.2.2.2.1.1) (nI S.2.2.2.2.1) pp av be so ro tb gv sd gr row one2 two2 S.2.1 (mkT S.1 S.2.2.1 1 u0.toInt v0.toInt) hrt (fun i hi => mkT_jr hro hrv hu hv (by omega) (by omega) hb i hi) (det_ne (mkT_det (by omega) (by omega) hb))) yX11_map_ok lkX11_190 ivX11_map slX11_map ⟨rfl, rfl, by decide, by decide⟩ (kX11_make_ok.at 138 rfl) rfl rfl (by decide) rfl rfl rfl (fun _ _ q => by obtain ⟨_, _, -, -, rfl⟩ := q; rfl) (fun r9 G1 q => ?_)
      obtain ⟨tb2, table3, rfl, q2, rfl⟩ := q
      have z := fin (zi (addM S.2.1 (mkT S.1 S.2.2.1 1 u0.toInt v0.toInt)).1) tb2 pp av be row table3 one2 two2 (by rw [e]) (by rw [e]; exact q2)
      rw [e] at z
      refine hX.less z ?_
      exact ⟨rfl, rfl, rfl, rfl, trivial⟩
  · refine hX.run (oc := [(125, oIn)]) kX11_make_ok ftX11_ok ctX11_ok hoc [] [9, 23, 37, 45, 57, 74, 86, 120, 126] [] 60 ?_
    refine hX.callV0 (rest := []) (c_mirror l (nI S.2.1.1) (nI S.2.2.2.1.1) (nI S.2.2.2.2.1) pp av be so ro tb gv sd gr row table one two S.1 S.2.2.1 hro hrv ) yX11_mirror_ok lkX11_124 ivX11_mirror slX11_mirror ⟨rfl, rfl, by decide, by decide⟩ (kX11_make_ok.at 49 rfl) rfl rfl (by decide) rfl rfl rfl (fun _ _ q => by obtain ⟨_, _, _, -, -, rfl⟩ := q; rfl) (fun r9 G1 q => ?_)
    obtain ⟨table2, one2, two2, rfl, hT, rfl⟩ := q
    refine hX.run (oc := [(125, oIn)]) kX11_make_ok ftX11_ok ctX11_ok hoc [141] [9, 23, 37, 45, 57, 74, 86, 120, 126] [] 60 ?_
    refine ⟨fun h => ?_, fun h => ?_⟩
    · have e : (mkM S.1 S.2.2.1 S.2.1 2 u0.toInt v0.toInt) = (-3, S.2.1) := by
        unfold mkM
        rw [show mkB S.1 S.2.2.1 2 u0.toInt v0.toInt = false from bI_0.mp h]; rfl
      have z := fin (zi (-3)) tb pp av be row table2 one2 two2 (by rw [e]) (by rw [e]; exact hrt)
      rw [e] at z
      refine hX.less z ?_
      exact ⟨rfl, rfl, rfl, rfl, trivial⟩
    · have hb : mkB S.1 S.2.2.1 2 u0.toInt v0.toInt = true := bI_t h
      have hT2 : ∀ i, i < 9 → table2 i = zl ((mkT S.1 S.2.2.1 2 u0.toInt v0.toInt) i) := hT (bI_t h)
      have e : (mkM S.1 S.2.2.1 S.2.1 2 u0.toInt v0.toInt) = addM S.2.1 (mkT S.1 S.2.2.1 2 u0.toInt v0.toInt) := by
        unfold mkM
        rw [hb]; rfl
      refine hX.alike (G2 := GR (nI S.1.1) (nI S.2.1.1) (nI S.2.2.1.1) (nI S.2.2.2.1.1) (nI S.2.2.2.2.1) pp av be so ro tb gv sd gr row (fun i => zl ((mkT S.1 S.2.2.1 2 u0.toInt v0.toInt) i)) one2 two2) ?_ ⟨xsame_rf _, xsame_rf _, xsame_rf _, xsame_rf _, xsame_rf _, xsame_rf _, xsame_rf _, xsame_rf _, ⟨rfl, fun i hi => ?_⟩, xsame_rf _, xsame_rf _, trivial⟩
      rotate_left
      · exact hT2 i hi
      refine hX.callV0 (rest := []) (c_map l (nI S.1.1) (nI S.2.2.1.1) (nI S.2.2.2.1.1) (nI S.2.2.2.2.1) pp av be so ro tb gv sd gr row one2 two2 S.2.1 (mkT S.1 S.2.2.1 2 u0.toInt v0.toInt) hrt (fun i hi => mkT_jr hro hrv hu hv (by omega) (by omega) hb i hi) (det_ne (mkT_det (by omega) (by omega) hb))) yX11_map_ok lkX11_190 ivX11_map slX11_map ⟨rfl, rfl, by decide, by decide⟩ (kX11_make_ok.at 138 rfl) rfl rfl (by decide) rfl rfl rfl (fun _ _ q => by obtain ⟨_, _, -, -, rfl⟩ := q; rfl) (fun r9 G1 q => ?_)
      obtain ⟨tb2, table3, rfl, q2, rfl⟩ := q
      have z := fin (zi (addM S.2.1 (mkT S.1 S.2.2.1 2 u0.toInt v0.toInt)).1) tb2 pp av be row table3 one2 two2 (by rw [e]) (by rw [e]; exact q2)
      rw [e] at z
      refine hX.less z ?_
      exact ⟨rfl, rfl, rfl, rfl, trivial⟩
  · refine hX.run (oc := [(125, oIn)]) kX11_make_ok ftX11_ok ctX11_ok hoc [] [9, 23, 37, 45, 57, 74, 86, 120, 126] [] 60 ?_
    refine hX.callV0 (rest := []) (c_simple l (nI S.2.1.1) (nI S.2.2.2.1.1) (nI S.2.2.2.2.1) pp av be so ro tb gv sd gr row table one two S.1 S.2.2.1 hro hrv 3 (by omega) u0.toInt v0.toInt hu hv) yX11_simple_ok lkX11_207 ivX11_simple slX11_simple ⟨rfl, rfl, by decide, by decide⟩ (kX11_make_ok.at 95 rfl) rfl rfl (by decide) rfl rfl rfl (fun _ _ q => by obtain ⟨_, _, _, -, -, rfl⟩ := q; rfl) (fun r9 G1 q => ?_)
    obtain ⟨table2, one2, two2, rfl, hT, rfl⟩ := q
    refine hX.run (oc := [(125, oIn)]) kX11_make_ok ftX11_ok ctX11_ok hoc [141] [9, 23, 37, 45, 57, 74, 86, 120, 126] [] 60 ?_
    refine ⟨fun h => ?_, fun h => ?_⟩
    · have e : (mkM S.1 S.2.2.1 S.2.1 3 u0.toInt v0.toInt) = (-3, S.2.1) := by
        unfold mkM
        rw [show mkB S.1 S.2.2.1 3 u0.toInt v0.toInt = false from bI_0.mp h]; rfl
      have z := fin (zi (-3)) tb pp av be row table2 one2 two2 (by rw [e]) (by rw [e]; exact hrt)
      rw [e] at z
      refine hX.less z ?_
      exact ⟨rfl, rfl, rfl, rfl, trivial⟩
    · have hb : mkB S.1 S.2.2.1 3 u0.toInt v0.toInt = true := bI_t h
      have hT2 : ∀ i, i < 9 → table2 i = zl ((mkT S.1 S.2.2.1 3 u0.toInt v0.toInt) i) := hT (bI_t h)
      have e : (mkM S.1 S.2.2.1 S.2.1 3 u0.toInt v0.toInt) = addM S.2.1 (mkT S.1 S.2.2.1 3 u0.toInt v0.toInt) := by
        unfold mkM
        rw [hb]; rfl
      refine hX.alike (G2 := GR (nI S.1.1) (nI S.2.1.1) (nI S.2.2.1.1) (nI S.2.2.2.1.1) (nI S.2.2.2.2.1) pp av be so ro tb gv sd gr row (fun i => zl ((mkT S.1 S.2.2.1 3 u0.toInt v0.toInt) i)) one2 two2) ?_ ⟨xsame_rf _, xsame_rf _, xsame_rf _, xsame_rf _, xsame_rf _, xsame_rf _, xsame_rf _, xsame_rf _, ⟨rfl, fun i hi => ?_⟩, xsame_rf _, xsame_rf _, trivial⟩
      rotate_left
      · exact hT2 i hi
      refine hX.callV0 (rest := []) (c_map l (nI S.1.1) (nI S.2.2.1.1) (nI S.2.2.2.1.1) (nI S.2.2.2.2.1) pp av be so ro tb gv sd gr row one2 two2 S.2.1 (mkT S.1 S.2.2.1 3 u0.toInt v0.toInt) hrt (fun i hi => mkT_jr hro hrv hu hv (by omega) (by omega) hb i hi) (det_ne (mkT_det (by omega) (by omega) hb))) yX11_map_ok lkX11_190 ivX11_map slX11_map ⟨rfl, rfl, by decide, by decide⟩ (kX11_make_ok.at 138 rfl) rfl rfl (by decide) rfl rfl rfl (fun _ _ q => by obtain ⟨_, _, -, -, rfl⟩ := q; rfl) (fun r9 G1 q => ?_)
      obtain ⟨tb2, table3, rfl, q2, rfl⟩ := q
      have z := fin (zi (addM S.2.1 (mkT S.1 S.2.2.1 3 u0.toInt v0.toInt)).1) tb2 pp av be row table3 one2 two2 (by rw [e]) (by rw [e]; exact q2)
      rw [e] at z
      refine hX.less z ?_
      exact ⟨rfl, rfl, rfl, rfl, trivial⟩
  · refine hX.run (oc := [(125, oIn)]) kX11_make_ok ftX11_ok ctX11_ok hoc [] [9, 23, 37, 45, 57, 74, 86, 120, 126] [] 60 ?_
    refine hX.callV0 (rest := []) (c_glide l (nI S.2.1.1) (nI S.2.2.2.1.1) (nI S.2.2.2.2.1) pp av be so ro tb gv sd gr row table one two S.1 S.2.2.1 hro hrv u0.toInt v0.toInt hu hv) yX11_glide_ok lkX11_200 ivX11_glide slX11_glide ⟨rfl, rfl, by decide, by decide⟩ (kX11_make_ok.at 65 rfl) rfl rfl (by decide) rfl rfl rfl (fun _ _ q => by obtain ⟨_, _, _, -, -, rfl⟩ := q; rfl) (fun r9 G1 q => ?_)
    obtain ⟨table2, one2, two2, rfl, hT, rfl⟩ := q
    refine hX.run (oc := [(125, oIn)]) kX11_make_ok ftX11_ok ctX11_ok hoc [141] [9, 23, 37, 45, 57, 74, 86, 120, 126] [] 60 ?_
    refine ⟨fun h => ?_, fun h => ?_⟩
    · have e : (mkM S.1 S.2.2.1 S.2.1 4 u0.toInt v0.toInt) = (-3, S.2.1) := by
        unfold mkM
        rw [show mkB S.1 S.2.2.1 4 u0.toInt v0.toInt = false from bI_0.mp h]; rfl
      have z := fin (zi (-3)) tb pp av be row table2 one2 two2 (by rw [e]) (by rw [e]; exact hrt)
      rw [e] at z
      refine hX.less z ?_
      exact ⟨rfl, rfl, rfl, rfl, trivial⟩
    · have hb : mkB S.1 S.2.2.1 4 u0.toInt v0.toInt = true := bI_t h
      have hT2 : ∀ i, i < 9 → table2 i = zl ((mkT S.1 S.2.2.1 4 u0.toInt v0.toInt) i) := hT (bI_t h)
      have e : (mkM S.1 S.2.2.1 S.2.1 4 u0.toInt v0.toInt) = addM S.2.1 (mkT S.1 S.2.2.1 4 u0.toInt v0.toInt) := by
        unfold mkM
        rw [hb]; rfl
      refine hX.alike (G2 := GR (nI S.1.1) (nI S.2.1.1) (nI S.2.2.1.1) (nI S.2.2.2.1.1) (nI S.2.2.2.2.1) pp av be so ro tb gv sd gr row (fun i => zl ((mkT S.1 S.2.2.1 4 u0.toInt v0.toInt) i)) one2 two2) ?_ ⟨xsame_rf _, xsame_rf _, xsame_rf _, xsame_rf _, xsame_rf _, xsame_rf _, xsame_rf _, xsame_rf _, ⟨rfl, fun i hi => ?_⟩, xsame_rf _, xsame_rf _, trivial⟩
      rotate_left
      · exact hT2 i hi
      refine hX.callV0 (rest := []) (c_map l (nI S.1.1) (nI S.2.2.1.1) (nI S.2.2.2.1.1) (nI S.2.2.2.2.1) pp av be so ro tb gv sd gr row one2 two2 S.2.1 (mkT S.1 S.2.2.1 4 u0.toInt v0.toInt) hrt (fun i hi => mkT_jr hro hrv hu hv (by omega) (by omega) hb i hi) (det_ne (mkT_det (by omega) (by omega) hb))) yX11_map_ok lkX11_190 ivX11_map slX11_map ⟨rfl, rfl, by decide, by decide⟩ (kX11_make_ok.at 138 rfl) rfl rfl (by decide) rfl rfl rfl (fun _ _ q => by obtain ⟨_, _, -, -, rfl⟩ := q; rfl) (fun r9 G1 q => ?_)
      obtain ⟨tb2, table3, rfl, q2, rfl⟩ := q
      have z := fin (zi (addM S.2.1 (mkT S.1 S.2.2.1 4 u0.toInt v0.toInt)).1) tb2 pp av be row table3 one2 two2 (by rw [e]) (by rw [e]; exact q2)
      rw [e] at z
      refine hX.less z ?_
      exact ⟨rfl, rfl, rfl, rfl, trivial⟩
  · have hmb : mkB S.1 S.2.2.1 5 u0.toInt v0.toInt = mayB S.1 S.2.2.1 5 := rfl
    refine hX.run (oc := [(125, oIn)]) kX11_make_ok ftX11_ok ctX11_ok hoc [] [9, 23, 37, 45, 57, 74, 86, 120, 126] [] 60 ?_
    refine hX.callV0 (rest := []) (c_mayBe5 l (nI S.2.1.1) (nI S.2.2.2.1.1) (nI S.2.2.2.2.1) pp av be so ro tb gv sd gr row table one two S.1 S.2.2.1 hro hrv) yX11_mayBe_ok lkX11_211 ivX11_mayBe slX11_mayBe ⟨rfl, rfl, by decide, by decide⟩ (kX11_make_ok.at 103 rfl) rfl rfl (by decide) rfl rfl rfl (fun _ _ q => by rw [q.2]) (fun r9 G1 q => ?_)
    obtain ⟨rfl, rfl⟩ := q
    refine hX.run (oc := [(125, oIn)]) kX11_make_ok ftX11_ok ctX11_ok hoc [141] [9, 23, 37, 45, 57, 74, 86, 120, 126] [] 60 ?_
    refine ⟨fun h => ?_, fun h => ?_⟩
    · have e : (mkM S.1 S.2.2.1 S.2.1 5 u0.toInt v0.toInt) = (-3, S.2.1) := by
        unfold mkM
        rw [hmb, bI_0.mp h]; rfl
      have z := fin (zi (-3)) tb pp av be row table one two (by rw [e]) (by rw [e]; exact hrt)
      rw [e] at z
      refine hX.less z ?_
      exact ⟨rfl, rfl, rfl, rfl, trivial⟩
    · have hb := bI_t h
      have e : (mkM S.1 S.2.2.1 S.2.1 5 u0.toInt v0.toInt) = bpy S.1 S.2.2.1 S.2.1 5 3 0 := by
        unfold mkM
        rw [hmb, hb]; rfl
      have hVn : S.2.2.1.1 = 4 := by
        unfold mayB at hb
        simp only [Bool.and_eq_true] at hb
        exact (givB_1 hb.1).1
      refine hX.callV0 (rest := []) (c_byPoints5 l (nI S.2.2.2.1.1) (nI S.2.2.2.2.1) pp av be so ro tb gv sd gr row table one two S.1 S.2.2.1 S.2.1 hro hrv hrt hpi hVn) yX11_byPoints_ok lkX11_214 ivX11_byPoints slX11_byPoints ⟨rfl, rfl, by decide, by decide⟩ (kX11_make_ok.at 131 rfl) rfl rfl (by decide) rfl rfl rfl (fun _ _ q => by obtain ⟨_, _, _, _, _, _, _, _, -, -, rfl⟩ := q; rfl) (fun r9 G1 q => ?_)
      obtain ⟨tb2, pp2, av2, be2, row2, table2, one2, two2, rfl, q2, rfl⟩ := q
      refine hX.run (oc := [(125, oIn)]) kX11_make_ok ftX11_ok ctX11_ok hoc [141] [9, 23, 37, 45, 57, 74, 86, 120, 126] [] 60 ?_
      have z := fin (zi (bpy S.1 S.2.2.1 S.2.1 5 3 0).1) tb2 pp2 av2 be2 row2 table2 one2 two2 (by rw [e]) (by rw [e]; exact q2)
      rw [e] at z
      refine hX.less z ?_
      exact ⟨rfl, rfl, rfl, rfl, trivial⟩
  · have hmb : mkB S.1 S.2.2.1 6 u0.toInt v0.toInt = mayB S.1 S.2.2.1 6 := rfl
    refine hX.run (oc := [(125, oIn)]) kX11_make_ok ftX11_ok ctX11_ok hoc [] [9, 23, 37, 45, 57, 74, 86, 120, 126] [] 60 ?_
    refine hX.callV0 (rest := []) (c_mayBe6 l (nI S.2.1.1) (nI S.2.2.2.1.1) (nI S.2.2.2.2.1) pp av be so ro tb gv sd gr row table one two S.1 S.2.2.1 hro hrv) yX11_mayBe_ok lkX11_211 ivX11_mayBe slX11_mayBe ⟨rfl, rfl, by decide, by decide⟩ (kX11_make_ok.at 103 rfl) rfl rfl (by decide) rfl rfl rfl (fun _ _ q => by rw [q.2]) (fun r9 G1 q => ?_)
    obtain ⟨rfl, rfl⟩ := q
    refine hX.run (oc := [(125, oIn)]) kX11_make_ok ftX11_ok ctX11_ok hoc [141] [9, 23, 37, 45, 57, 74, 86, 120, 126] [] 60 ?_
    refine ⟨fun h => ?_, fun h => ?_⟩
    · have e : (mkM S.1 S.2.2.1 S.2.1 6 u0.toInt v0.toInt) = (-3, S.2.1) := by
        unfold mkM
        rw [hmb, bI_0.mp h]; rfl
      have z := fin (zi (-3)) tb pp av be row table one two (by rw [e]) (by rw [e]; exact hrt)
      rw [e] at z
      refine hX.less z ?_
      exact ⟨rfl, rfl, rfl, rfl, trivial⟩
    · have hb := bI_t h
      have e : (mkM S.1 S.2.2.1 S.2.1 6 u0.toInt v0.toInt) = bpy S.1 S.2.2.1 S.2.1 6 3 0 := by
        unfold mkM
        rw [hmb, hb]; rfl
      have hVn : S.2.2.1.1 = 6 := by
        unfold mayB at hb
        simp only [Bool.and_eq_true] at hb
        exact (givB_1 hb.1).1
      refine hX.callV0 (rest := []) (c_byPoints6 l (nI S.2.2.2.1.1) (nI S.2.2.2.2.1) pp av be so ro tb gv sd gr row table one two S.1 S.2.2.1 S.2.1 hro hrv hrt hpi hVn) yX11_byPoints_ok lkX11_214 ivX11_byPoints slX11_byPoints ⟨rfl, rfl, by decide, by decide⟩ (kX11_make_ok.at 131 rfl) rfl rfl (by decide) rfl rfl rfl (fun _ _ q => by obtain ⟨_, _, _, _, _, _, _, _, -, -, rfl⟩ := q; rfl) (fun r9 G1 q => ?_)
      obtain ⟨tb2, pp2, av2, be2, row2, table2, one2, two2, rfl, q2, rfl⟩ := q
      refine hX.run (oc := [(125, oIn)]) kX11_make_ok ftX11_ok ctX11_ok hoc [141] [9, 23, 37, 45, 57, 74, 86, 120, 126] [] 60 ?_
      have z := fin (zi (bpy S.1 S.2.2.1 S.2.1 6 3 0).1) tb2 pp2 av2 be2 row2 table2 one2 two2 (by rw [e]) (by rw [e]; exact q2)
      rw [e] at z
      refine hX.less z ?_
      exact ⟨rfl, rfl, rfl, rfl, trivial⟩
  · have hmb : mkB S.1 S.2.2.1 7 u0.toInt v0.toInt = mayB S.1 S.2.2.1 7 := rfl
    refine hX.run (oc := [(125, oIn)]) kX11_make_ok ftX11_ok ctX11_ok hoc [] [9, 23, 37, 45, 57, 74, 86, 120, 126] [] 60 ?_
    refine hX.callV0 (rest := []) (c_mayBe7 l (nI S.2.1.1) (nI S.2.2.2.1.1) (nI S.2.2.2.2.1) pp av be so ro tb gv sd gr row table one two S.1 S.2.2.1 hro hrv) yX11_mayBe_ok lkX11_211 ivX11_mayBe slX11_mayBe ⟨rfl, rfl, by decide, by decide⟩ (kX11_make_ok.at 103 rfl) rfl rfl (by decide) rfl rfl rfl (fun _ _ q => by rw [q.2]) (fun r9 G1 q => ?_)
    obtain ⟨rfl, rfl⟩ := q
    refine hX.run (oc := [(125, oIn)]) kX11_make_ok ftX11_ok ctX11_ok hoc [141] [9, 23, 37, 45, 57, 74, 86, 120, 126] [] 60 ?_
    refine ⟨fun h => ?_, fun h => ?_⟩
    · have e : (mkM S.1 S.2.2.1 S.2.1 7 u0.toInt v0.toInt) = (-3, S.2.1) := by
        unfold mkM
        rw [hmb, bI_0.mp h]; rfl
      have z := fin (zi (-3)) tb pp av be row table one two (by rw [e]) (by rw [e]; exact hrt)
      rw [e] at z
      refine hX.less z ?_
      exact ⟨rfl, rfl, rfl, rfl, trivial⟩
    · have hb := bI_t h
      have e : (mkM S.1 S.2.2.1 S.2.1 7 u0.toInt v0.toInt) = bpy S.1 S.2.2.1 S.2.1 7 3 0 := by
        unfold mkM
        rw [hmb, hb]; rfl
      have hVn : S.2.2.1.1 = 8 := by
        unfold mayB at hb
        simp only [Bool.and_eq_true] at hb
        exact (givB_1 hb.1).1
      refine hX.callV0 (rest := []) (c_byPoints7 l (nI S.2.2.2.1.1) (nI S.2.2.2.2.1) pp av be so ro tb gv sd gr row table one two S.1 S.2.2.1 S.2.1 hro hrv hrt hpi hVn) yX11_byPoints_ok lkX11_214 ivX11_byPoints slX11_byPoints ⟨rfl, rfl, by decide, by decide⟩ (kX11_make_ok.at 131 rfl) rfl rfl (by decide) rfl rfl rfl (fun _ _ q => by obtain ⟨_, _, _, _, _, _, _, _, -, -, rfl⟩ := q; rfl) (fun r9 G1 q => ?_)
      obtain ⟨tb2, pp2, av2, be2, row2, table2, one2, two2, rfl, q2, rfl⟩ := q
      refine hX.run (oc := [(125, oIn)]) kX11_make_ok ftX11_ok ctX11_ok hoc [141] [9, 23, 37, 45, 57, 74, 86, 120, 126] [] 60 ?_
      have z := fin (zi (bpy S.1 S.2.2.1 S.2.1 7 3 0).1) tb2 pp2 av2 be2 row2 table2 one2 two2 (by rw [e]) (by rw [e]; exact q2)
      rw [e] at z
      refine hX.less z ?_
      exact ⟨rfl, rfl, rfl, rfl, trivial⟩
  · refine hX.run (oc := [(125, oIn)]) kX11_make_ok ftX11_ok ctX11_ok hoc [] [9, 23, 37, 45, 57, 74, 86, 120, 126] [] 60 ?_
    refine hX.callV0 (rest := []) (c_any l (nI S.2.1.1) (nI S.2.2.2.1.1) (nI S.2.2.2.2.1) pp av be so ro tb gv sd gr row table one two S.1 S.2.2.1 hro hrv ) yX11_any_ok lkX11_204 ivX11_any slX11_any ⟨rfl, rfl, by decide, by decide⟩ (kX11_make_ok.at 78 rfl) rfl rfl (by decide) rfl rfl rfl (fun _ _ q => by obtain ⟨_, _, _, -, -, rfl⟩ := q; rfl) (fun r9 G1 q => ?_)
    obtain ⟨table2, one2, two2, rfl, hT, rfl⟩ := q
    refine hX.run (oc := [(125, oIn)]) kX11_make_ok ftX11_ok ctX11_ok hoc [141] [9, 23, 37, 45, 57, 74, 86, 120, 126] [] 60 ?_
    refine ⟨fun h => ?_, fun h => ?_⟩
    · have e : (mkM S.1 S.2.2.1 S.2.1 8 u0.toInt v0.toInt) = (-3, S.2.1) := by
        unfold mkM
        rw [show mkB S.1 S.2.2.1 8 u0.toInt v0.toInt = false from bI_0.mp h]; rfl
      have z := fin (zi (-3)) tb pp av be row table2 one2 two2 (by rw [e]) (by rw [e]; exact hrt)
      rw [e] at z
      refine hX.less z ?_
      exact ⟨rfl, rfl, rfl, rfl, trivial⟩
    · have hb : mkB S.1 S.2.2.1 8 u0.toInt v0.toInt = true := bI_t h
      have hT2 : ∀ i, i < 9 → table2 i = zl ((mkT S.1 S.2.2.1 8 u0.toInt v0.toInt) i) := hT (bI_t h)
      have e : (mkM S.1 S.2.2.1 S.2.1 8 u0.toInt v0.toInt) = addM S.2.1 (mkT S.1 S.2.2.1 8 u0.toInt v0.toInt) := by
        unfold mkM
        rw [hb]; rfl
      refine hX.alike (G2 := GR (nI S.1.1) (nI S.2.1.1) (nI S.2.2.1.1) (nI S.2.2.2.1.1) (nI S.2.2.2.2.1) pp av be so ro tb gv sd gr row (fun i => zl ((mkT S.1 S.2.2.1 8 u0.toInt v0.toInt) i)) one2 two2) ?_ ⟨xsame_rf _, xsame_rf _, xsame_rf _, xsame_rf _, xsame_rf _, xsame_rf _, xsame_rf _, xsame_rf _, ⟨rfl, fun i hi => ?_⟩, xsame_rf _, xsame_rf _, trivial⟩
      rotate_left
      · exact hT2 i hi
      refine hX.callV0 (rest := []) (c_map l (nI S.1.1) (nI S.2.2.1.1) (nI S.2.2.2.1.1) (nI S.2.2.2.2.1) pp av be so ro tb gv sd gr row one2 two2 S.2.1 (mkT S.1 S.2.2.1 8 u0.toInt v0.toInt) hrt (fun i hi => mkT_jr hro hrv hu hv (by omega) (by omega) hb i hi) (det_ne (mkT_det (by omega) (by omega) hb))) yX11_map_ok lkX11_190 ivX11_map slX11_map ⟨rfl, rfl, by decide, by decide⟩ (kX11_make_ok.at 138 rfl) rfl rfl (by decide) rfl rfl rfl (fun _ _ q => by obtain ⟨_, _, -, -, rfl⟩ := q; rfl) (fun r9 G1 q => ?_)
      obtain ⟨tb2, table3, rfl, q2, rfl⟩ := q
      have z := fin (zi (addM S.2.1 (mkT S.1 S.2.2.1 8 u0.toInt v0.toInt)).1) tb2 pp av be row table3 one2 two2 (by rw [e]) (by rw [e]; exact q2)
      rw [e] at z
      refine hX.less z ?_
      exact ⟨rfl, rfl, rfl, rfl, trivial⟩

