/-! the class: build, take, the group -/
def bldC (n : Nat) (ss : Nat → Nat) (q : Nat → Nat → Int) (k : Nat) (u v : Int) : Int :=
  if k = 0 then (if cNear n ss q 1 then 0 else -3)
  else if k = 1 then (if cNear n ss q 1 = true ∧ ¬ (u = 0 ∧ v = 0) then 0 else -3)
  else if k = 2 then (if cAll n ss 1 1 = true ∧ ¬ (1 : Int) = 0 ∧ ¬ q 0 0 * q 0 0 + q 0 1 * q 0 1 = 0 then 0 else -3)
  else if k = 3 then (if cNear n ss q 1 = true ∧ ¬ u = 0 ∧ ¬ v = 0 then 0 else -3)
  else if k = 4 then (if cAll n ss 1 1 = true ∧ ¬ v = 0 ∧ ¬ q 0 0 * q 0 0 + q 0 1 * q 0 1 = 0 then 0 else -3)
  else if k = 5 then (if cNear n ss q 4 = true ∧ ¬ (lfx q = 0 ∧ lfy q = 0) ∧ ¬ (ltx q = 0 ∧ lty q = 0) then 0 else -3)
  else if k = 6 then (if cNear n ss q 6 = true ∧ ¬ inl0 q 0 = 0 ∧ ¬ inl0 q 3 = 0 then 0 else -3)
  else if k = 7 then prjC n ss q
  else (if cAll n ss 1 3 = true ∧ ¬ det9 (fun i => q (i / 3) (i % 3)) = 0 then 0 else -3)
def bldT (q : Nat → Nat → Int) (k : Nat) (u v : Int) : Nat → Int :=
  if k = 0 then simT 0 (q 0) 0 0 else if k = 1 then simT 1 (q 0) u v else if k = 2 then mul9 (gliO (q 0) 0 1) (mirT (q 0)) else if k = 3 then simT 3 (q 0) u v else if k = 4 then mul9 (gliO (q 0) u v) (mirT (q 0)) else if k = 5 then clik9 q else if k = 6 then wgt (affW q) q (sidF q 0) 3 else if k = 7 then wgt (prjW q) q (sidF q 0) 4 else fun i => q (i / 3) (i % 3)
set_option maxHeartbeats 4000000 in
set_option maxRecDepth 100000 in
theorem k_build (l : Launch) (n : Nat) (mks : Nat → Int32) (q : Nat → Nat → Int) (f0 f1 f2 t0 t1 t2 we pa out : Nat → Int64) (ss : Nat → Nat) (hr : MR n ss mks q) (k : Nat) (hk : k ≤ 8) (u v : Int) (hu : ab u 1000) (hv : ab v 1000) : xM l yX5_build cX5_build 7 (some .int) rX5_build [.ref 0, .int (nI k), .long (zl u), .long (zl v), .ref 21] [.inr (3, [.ref 1, .ref 2, .ref 3, .ref 4, .ref 5, .ref 6, .int (nI n)]), .inl (8, .inl (mks)), .inl (8, .inr (.inr (.inr (.inr (gmap))))), .inl (3, .inr (.inr (.inr (.inr (fmap))))), .inl (3, .inr (.inr (.inr (.inr (tmap))))), .inl (3, .inr (.inl (we))), .inl (2, .inr (.inl (pa))), .inl (3, .inr (.inl (fun i => zl (q 0 i)))), .inl (3, .inr (.inl (fun i => zl (q 1 i)))), .inl (3, .inr (.inl (fun i => zl (q 2 i)))), .inl (3, .inr (.inl (fun i => zl (q 3 i)))), .inl (3, .inr (.inl (fun i => zl (q 4 i)))), .inl (3, .inr (.inl (fun i => zl (q 5 i)))), .inl (3, .inr (.inl (fun i => zl (q 6 i)))), .inl (3, .inr (.inl (fun i => zl (q 7 i)))), .inl (3, .inr (.inl (f0))), .inl (3, .inr (.inl (f1))), .inl (3, .inr (.inl (f2))), .inl (3, .inr (.inl (t0))), .inl (3, .inr (.inl (t1))), .inl (3, .inr (.inl (t2))), .inl (9, .inr (.inl (out)))] (fun r G => ∃ f0' f1' f2' t0' t1' t2' we' pa' out', r = some (.int (zi (bldC n ss q k u v))) ∧ ((bldC n ss q k u v) = 0 → ∀ i, i < 9 → out' i = zl (bldT q k u v i)) ∧ G = [.inr (3, [.ref 1, .ref 2, .ref 3, .ref 4, .ref 5, .ref 6, .int (nI n)]), .inl (8, .inl (mks)), .inl (8, .inr (.inr (.inr (.inr (gmap))))), .inl (3, .inr (.inr (.inr (.inr (fmap))))), .inl (3, .inr (.inr (.inr (.inr (tmap))))), .inl (3, .inr (.inl (we'))), .inl (2, .inr (.inl (pa'))), .inl (3, .inr (.inl (fun i => zl (q 0 i)))), .inl (3, .inr (.inl (fun i => zl (q 1 i)))), .inl (3, .inr (.inl (fun i => zl (q 2 i)))), .inl (3, .inr (.inl (fun i => zl (q 3 i)))), .inl (3, .inr (.inl (fun i => zl (q 4 i)))), .inl (3, .inr (.inl (fun i => zl (q 5 i)))), .inl (3, .inr (.inl (fun i => zl (q 6 i)))), .inl (3, .inr (.inl (fun i => zl (q 7 i)))), .inl (3, .inr (.inl (f0'))), .inl (3, .inr (.inl (f1'))), .inl (3, .inr (.inl (f2'))), .inl (3, .inr (.inl (t0'))), .inl (3, .inr (.inl (t1'))), .inl (3, .inr (.inl (t2'))), .inl (9, .inr (.inl (out')))]) := by
  refine xM.of (by decide) (Nat.le_of_ble_eq_true rfl) (fun X hX => ?_)
  rcases (show k = 0 ∨ k = 1 ∨ k = 2 ∨ k = 3 ∨ k = 4 ∨ k = 5 ∨ k = 6 ∨ k = 7 ∨ k = 8 by omega) with rfl | rfl | rfl | rfl | rfl | rfl | rfl | rfl | rfl
  · refine hX.run (ft := ftX5) (ct := ctX5) (oc := []) kX5_build_ok ftX5_ok ctX5_ok xnoc [] [] [] 120 ?_
    refine hX.tabIn (off := 51) (tgt := 52) (kX5_build_ok.at 1 rfl) (by decide) (by decide) (by decide) (by decide) ?_
    refine hX.run (ft := ftX5) (ct := ctX5) (oc := []) kX5_build_ok ftX5_ok ctX5_ok xnoc [] [] [] 120 ?_
    refine hX.callV0 (rest := []) (k_bShift l n mks q f0 f1 f2 t0 t1 t2 we pa out ss hr) yX5_buildShift_ok lkX5_61 ivX5_buildShift slX5_buildShift ⟨rfl, rfl, by decide, by decide⟩ (kX5_build_ok.at 55 rfl) rfl rfl (by decide) rfl rfl rfl (fun _ _ q => by obtain ⟨_, _, _, _, _, _, _, _, _, -, -, rfl⟩ := q; rfl) (fun r9 G1 q => ?_)
    obtain ⟨f0', f1', f2', t0', t1', t2', we', pa', out', rfl, h, rfl⟩ := q
    refine hX.run (ft := ftX5) (ct := ctX5) (oc := []) kX5_build_ok ftX5_ok ctX5_ok xnoc [] [] [] 120 ?_
    exact ⟨f0', f1', f2', t0', t1', t2', we', pa', out', rfl, h, rfl⟩
  · refine hX.run (ft := ftX5) (ct := ctX5) (oc := []) kX5_build_ok ftX5_ok ctX5_ok xnoc [] [] [] 120 ?_
    refine hX.tabIn (off := 58) (tgt := 59) (kX5_build_ok.at 1 rfl) (by decide) (by decide) (by decide) (by decide) ?_
    refine hX.run (ft := ftX5) (ct := ctX5) (oc := []) kX5_build_ok ftX5_ok ctX5_ok xnoc [] [] [] 120 ?_
    refine hX.callV0 (rest := []) (k_bTurn l n mks q f0 f1 f2 t0 t1 t2 we pa out ss hr u v hu hv) yX5_buildTurn_ok lkX5_65 ivX5_buildTurn slX5_buildTurn ⟨rfl, rfl, by decide, by decide⟩ (kX5_build_ok.at 65 rfl) rfl rfl (by decide) rfl rfl rfl (fun _ _ q => by obtain ⟨_, _, _, _, _, _, _, _, _, -, -, rfl⟩ := q; rfl) (fun r9 G1 q => ?_)
    obtain ⟨f0', f1', f2', t0', t1', t2', we', pa', out', rfl, h, rfl⟩ := q
    refine hX.run (ft := ftX5) (ct := ctX5) (oc := []) kX5_build_ok ftX5_ok ctX5_ok xnoc [] [] [] 120 ?_
    exact ⟨f0', f1', f2', t0', t1', t2', we', pa', out', rfl, h, rfl⟩
  · refine hX.run (ft := ftX5) (ct := ctX5) (oc := []) kX5_build_ok ftX5_ok ctX5_ok xnoc [] [] [] 120 ?_
    refine hX.tabIn (off := 68) (tgt := 69) (kX5_build_ok.at 1 rfl) (by decide) (by decide) (by decide) (by decide) ?_
    refine hX.run (ft := ftX5) (ct := ctX5) (oc := []) kX5_build_ok ftX5_ok ctX5_ok xnoc [] [] [] 120 ?_
    refine hX.callV0 (rest := []) (k_bGlide l n mks q f0 f1 f2 t0 t1 t2 we pa out ss hr 0 1 ⟨by omega, by omega⟩ ⟨by omega, by omega⟩) yX5_buildGlide_ok lkX5_69 ivX5_buildGlide slX5_buildGlide ⟨rfl, rfl, by decide, by decide⟩ (kX5_build_ok.at 74 rfl) rfl rfl (by decide) rfl rfl rfl (fun _ _ q => by obtain ⟨_, _, _, _, _, _, _, _, _, -, -, rfl⟩ := q; rfl) (fun r9 G1 q => ?_)
    obtain ⟨f0', f1', f2', t0', t1', t2', we', pa', out', rfl, h, rfl⟩ := q
    refine hX.run (ft := ftX5) (ct := ctX5) (oc := []) kX5_build_ok ftX5_ok ctX5_ok xnoc [] [] [] 120 ?_
    exact ⟨f0', f1', f2', t0', t1', t2', we', pa', out', rfl, h, rfl⟩
  · refine hX.run (ft := ftX5) (ct := ctX5) (oc := []) kX5_build_ok ftX5_ok ctX5_ok xnoc [] [] [] 120 ?_
    refine hX.tabIn (off := 77) (tgt := 78) (kX5_build_ok.at 1 rfl) (by decide) (by decide) (by decide) (by decide) ?_
    refine hX.run (ft := ftX5) (ct := ctX5) (oc := []) kX5_build_ok ftX5_ok ctX5_ok xnoc [] [] [] 120 ?_
    refine hX.callV0 (rest := []) (k_bStretch l n mks q f0 f1 f2 t0 t1 t2 we pa out ss hr u v hu hv) yX5_buildStretch_ok lkX5_72 ivX5_buildStretch slX5_buildStretch ⟨rfl, rfl, by decide, by decide⟩ (kX5_build_ok.at 84 rfl) rfl rfl (by decide) rfl rfl rfl (fun _ _ q => by obtain ⟨_, _, _, _, _, _, _, _, _, -, -, rfl⟩ := q; rfl) (fun r9 G1 q => ?_)
    obtain ⟨f0', f1', f2', t0', t1', t2', we', pa', out', rfl, h, rfl⟩ := q
    refine hX.run (ft := ftX5) (ct := ctX5) (oc := []) kX5_build_ok ftX5_ok ctX5_ok xnoc [] [] [] 120 ?_
    exact ⟨f0', f1', f2', t0', t1', t2', we', pa', out', rfl, h, rfl⟩
  · refine hX.run (ft := ftX5) (ct := ctX5) (oc := []) kX5_build_ok ftX5_ok ctX5_ok xnoc [] [] [] 120 ?_
    refine hX.tabIn (off := 87) (tgt := 88) (kX5_build_ok.at 1 rfl) (by decide) (by decide) (by decide) (by decide) ?_
    refine hX.run (ft := ftX5) (ct := ctX5) (oc := []) kX5_build_ok ftX5_ok ctX5_ok xnoc [] [] [] 120 ?_
    refine hX.callV0 (rest := []) (k_bGlide l n mks q f0 f1 f2 t0 t1 t2 we pa out ss hr u v hu hv) yX5_buildGlide_ok lkX5_69 ivX5_buildGlide slX5_buildGlide ⟨rfl, rfl, by decide, by decide⟩ (kX5_build_ok.at 94 rfl) rfl rfl (by decide) rfl rfl rfl (fun _ _ q => by obtain ⟨_, _, _, _, _, _, _, _, _, -, -, rfl⟩ := q; rfl) (fun r9 G1 q => ?_)
    obtain ⟨f0', f1', f2', t0', t1', t2', we', pa', out', rfl, h, rfl⟩ := q
    refine hX.run (ft := ftX5) (ct := ctX5) (oc := []) kX5_build_ok ftX5_ok ctX5_ok xnoc [] [] [] 120 ?_
    exact ⟨f0', f1', f2', t0', t1', t2', we', pa', out', rfl, h, rfl⟩
  · refine hX.run (ft := ftX5) (ct := ctX5) (oc := []) kX5_build_ok ftX5_ok ctX5_ok xnoc [] [] [] 120 ?_
    refine hX.tabIn (off := 97) (tgt := 98) (kX5_build_ok.at 1 rfl) (by decide) (by decide) (by decide) (by decide) ?_
    refine hX.run (ft := ftX5) (ct := ctX5) (oc := []) kX5_build_ok ftX5_ok ctX5_ok xnoc [] [] [] 120 ?_
    refine hX.callV0 (rest := []) (k_bLikeness l n mks q f0 f1 f2 t0 t1 t2 we pa out ss hr) yX5_buildLikeness_ok lkX5_75 ivX5_buildLikeness slX5_buildLikeness ⟨rfl, rfl, by decide, by decide⟩ (kX5_build_ok.at 101 rfl) rfl rfl (by decide) rfl rfl rfl (fun _ _ q => by obtain ⟨_, _, _, _, _, _, _, _, _, -, -, rfl⟩ := q; rfl) (fun r9 G1 q => ?_)
    obtain ⟨f0', f1', f2', t0', t1', t2', we', pa', out', rfl, h, rfl⟩ := q
    refine hX.run (ft := ftX5) (ct := ctX5) (oc := []) kX5_build_ok ftX5_ok ctX5_ok xnoc [] [] [] 120 ?_
    exact ⟨f0', f1', f2', t0', t1', t2', we', pa', out', rfl, h, rfl⟩
  · refine hX.run (ft := ftX5) (ct := ctX5) (oc := []) kX5_build_ok ftX5_ok ctX5_ok xnoc [] [] [] 120 ?_
    refine hX.tabIn (off := 104) (tgt := 105) (kX5_build_ok.at 1 rfl) (by decide) (by decide) (by decide) (by decide) ?_
    refine hX.run (ft := ftX5) (ct := ctX5) (oc := []) kX5_build_ok ftX5_ok ctX5_ok xnoc [] [] [] 120 ?_
    refine hX.callV0 (rest := []) (k_bAffine l n mks q f0 f1 f2 t0 t1 t2 we pa out ss hr) yX5_buildAffine_ok lkX5_78 ivX5_buildAffine slX5_buildAffine ⟨rfl, rfl, by decide, by decide⟩ (kX5_build_ok.at 108 rfl) rfl rfl (by decide) rfl rfl rfl (fun _ _ q => by obtain ⟨_, _, _, _, _, _, _, _, _, -, -, rfl⟩ := q; rfl) (fun r9 G1 q => ?_)
    obtain ⟨f0', f1', f2', t0', t1', t2', we', pa', out', rfl, h, rfl⟩ := q
    refine hX.run (ft := ftX5) (ct := ctX5) (oc := []) kX5_build_ok ftX5_ok ctX5_ok xnoc [] [] [] 120 ?_
    exact ⟨f0', f1', f2', t0', t1', t2', we', pa', out', rfl, h, rfl⟩
  · refine hX.run (ft := ftX5) (ct := ctX5) (oc := []) kX5_build_ok ftX5_ok ctX5_ok xnoc [] [] [] 120 ?_
    refine hX.tabIn (off := 111) (tgt := 112) (kX5_build_ok.at 1 rfl) (by decide) (by decide) (by decide) (by decide) ?_
    refine hX.run (ft := ftX5) (ct := ctX5) (oc := []) kX5_build_ok ftX5_ok ctX5_ok xnoc [] [] [] 120 ?_
    refine hX.callV0 (rest := []) (k_bProj l n mks q f0 f1 f2 t0 t1 t2 we pa out ss hr) yX5_buildProjective_ok lkX5_81 ivX5_buildProjective slX5_buildProjective ⟨rfl, rfl, by decide, by decide⟩ (kX5_build_ok.at 115 rfl) rfl rfl (by decide) rfl rfl rfl (fun _ _ q => by obtain ⟨_, _, _, _, _, _, _, _, _, -, -, rfl⟩ := q; rfl) (fun r9 G1 q => ?_)
    obtain ⟨f0', f1', f2', t0', t1', t2', we', pa', out', rfl, h, rfl⟩ := q
    refine hX.run (ft := ftX5) (ct := ctX5) (oc := []) kX5_build_ok ftX5_ok ctX5_ok xnoc [] [] [] 120 ?_
    exact ⟨f0', f1', f2', t0', t1', t2', we', pa', out', rfl, h, rfl⟩
  · refine hX.run (ft := ftX5) (ct := ctX5) (oc := []) kX5_build_ok ftX5_ok ctX5_ok xnoc [] [] [] 120 ?_
    refine hX.tabIn (off := 118) (tgt := 119) (kX5_build_ok.at 1 rfl) (by decide) (by decide) (by decide) (by decide) ?_
    refine hX.run (ft := ftX5) (ct := ctX5) (oc := []) kX5_build_ok ftX5_ok ctX5_ok xnoc [] [] [] 120 ?_
    refine hX.callV0 (rest := []) (k_bAny l n mks q f0 f1 f2 t0 t1 t2 we pa out ss hr) yX5_buildAny_ok lkX5_84 ivX5_buildAny slX5_buildAny ⟨rfl, rfl, by decide, by decide⟩ (kX5_build_ok.at 122 rfl) rfl rfl (by decide) rfl rfl rfl (fun _ _ q => by obtain ⟨_, _, _, _, _, _, _, _, _, -, -, rfl⟩ := q; rfl) (fun r9 G1 q => ?_)
    obtain ⟨f0', f1', f2', t0', t1', t2', we', pa', out', rfl, h, rfl⟩ := q
    refine hX.run (ft := ftX5) (ct := ctX5) (oc := []) kX5_build_ok ftX5_ok ctX5_ok xnoc [] [] [] 120 ?_
    exact ⟨f0', f1', f2', t0', t1', t2', we', pa', out', rfl, h, rfl⟩

set_option maxHeartbeats 4000000 in
set_option maxRecDepth 100000 in
theorem k_take (l : Launch) (n : Int32) (mks : Nat → Int32) (q : Nat → Nat → Int) (f0 f1 f2 t0 t1 t2 we pa : Nat → Int64) (S : SO) (V : SV) (so ce me : Nat → Int32) (hS : RH S so ce) (hS2 : ∀ k, k < S.1 → S.2.1 k ≤ 2) (hV : RV 8 S.1 V me) : xM l yX5_take cX5_take 4 (none : Option FieldType) rX5_take [.ref 0, .ref 21, .ref 24] [.inr (3, [.ref 1, .ref 2, .ref 3, .ref 4, .ref 5, .ref 6, .int (n)]), .inl (8, .inl (mks)), .inl (8, .inr (.inr (.inr (.inr (gmap))))), .inl (3, .inr (.inr (.inr (.inr (fmap))))), .inl (3, .inr (.inr (.inr (.inr (tmap))))), .inl (3, .inr (.inl (we))), .inl (2, .inr (.inl (pa))), .inl (3, .inr (.inl (fun i => zl (q 0 i)))), .inl (3, .inr (.inl (fun i => zl (q 1 i)))), .inl (3, .inr (.inl (fun i => zl (q 2 i)))), .inl (3, .inr (.inl (fun i => zl (q 3 i)))), .inl (3, .inr (.inl (fun i => zl (q 4 i)))), .inl (3, .inr (.inl (fun i => zl (q 5 i)))), .inl (3, .inr (.inl (fun i => zl (q 6 i)))), .inl (3, .inr (.inl (fun i => zl (q 7 i)))), .inl (3, .inr (.inl (f0))), .inl (3, .inr (.inl (f1))), .inl (3, .inr (.inl (f2))), .inl (3, .inr (.inl (t0))), .inl (3, .inr (.inl (t1))), .inl (3, .inr (.inl (t2))), .inr (5, [.ref 22, .ref 23, .int (nI 60), .int (nI S.1)]), .inl (60, .inl (so)), .inl (540, .inl (ce)), .inr (2, [.ref 25, .int (nI 8), .int (nI V.1)]), .inl (8, .inl (me))] (fun r G => ∃ mks' q', r = none ∧ MR V.1 (gs S V) mks' q' ∧ (∀ k i, k < V.1 → i < 3 → q' k i = gq S V k i) ∧ G = [.inr (3, [.ref 1, .ref 2, .ref 3, .ref 4, .ref 5, .ref 6, .int (nI V.1)]), .inl (8, .inl (mks')), .inl (8, .inr (.inr (.inr (.inr (gmap))))), .inl (3, .inr (.inr (.inr (.inr (fmap))))), .inl (3, .inr (.inr (.inr (.inr (tmap))))), .inl (3, .inr (.inl (we))), .inl (2, .inr (.inl (pa))), .inl (3, .inr (.inl (fun i => zl (q' 0 i)))), .inl (3, .inr (.inl (fun i => zl (q' 1 i)))), .inl (3, .inr (.inl (fun i => zl (q' 2 i)))), .inl (3, .inr (.inl (fun i => zl (q' 3 i)))), .inl (3, .inr (.inl (fun i => zl (q' 4 i)))), .inl (3, .inr (.inl (fun i => zl (q' 5 i)))), .inl (3, .inr (.inl (fun i => zl (q' 6 i)))), .inl (3, .inr (.inl (fun i => zl (q' 7 i)))), .inl (3, .inr (.inl (f0))), .inl (3, .inr (.inl (f1))), .inl (3, .inr (.inl (f2))), .inl (3, .inr (.inl (t0))), .inl (3, .inr (.inl (t1))), .inl (3, .inr (.inl (t2))), .inr (5, [.ref 22, .ref 23, .int (nI 60), .int (nI S.1)]), .inl (60, .inl (so)), .inl (540, .inl (ce)), .inr (2, [.ref 25, .int (nI 8), .int (nI V.1)]), .inl (8, .inl (me))]) := by
  refine xM.of (by decide) (Nat.le_of_ble_eq_true rfl) (fun X hX => ?_)
  have hoc := xoc1 (oMinI_ok hX (idx := 39) lmX5_39 (by decide)) xnoc
  have h60 := hS.1
  have hV8 := hV.1
  have fin : ∀ (mks : Nat → Int32) (q : Nat → Nat → Int), (∀ j, j < V.1 → mks j = nI (gs S V j)) → (∀ j i, j < V.1 → i < 3 → q j i = gq S V j i) → ∃ mks' q', (none : Option Value) = none ∧ MR V.1 (gs S V) mks' q' ∧ (∀ k i, k < V.1 → i < 3 → q' k i = gq S V k i) ∧ ([.inr (3, [.ref 1, .ref 2, .ref 3, .ref 4, .ref 5, .ref 6, .int (nI V.1)]), .inl (8, .inl (mks)), .inl (8, .inr (.inr (.inr (.inr (gmap))))), .inl (3, .inr (.inr (.inr (.inr (fmap))))), .inl (3, .inr (.inr (.inr (.inr (tmap))))), .inl (3, .inr (.inl (we))), .inl (2, .inr (.inl (pa))), .inl (3, .inr (.inl (fun i => zl (q 0 i)))), .inl (3, .inr (.inl (fun i => zl (q 1 i)))), .inl (3, .inr (.inl (fun i => zl (q 2 i)))), .inl (3, .inr (.inl (fun i => zl (q 3 i)))), .inl (3, .inr (.inl (fun i => zl (q 4 i)))), .inl (3, .inr (.inl (fun i => zl (q 5 i)))), .inl (3, .inr (.inl (fun i => zl (q 6 i)))), .inl (3, .inr (.inl (fun i => zl (q 7 i)))), .inl (3, .inr (.inl (f0))), .inl (3, .inr (.inl (f1))), .inl (3, .inr (.inl (f2))), .inl (3, .inr (.inl (t0))), .inl (3, .inr (.inl (t1))), .inl (3, .inr (.inl (t2))), .inr (5, [.ref 22, .ref 23, .int (nI 60), .int (nI S.1)]), .inl (60, .inl (so)), .inl (540, .inl (ce)), .inr (2, [.ref 25, .int (nI 8), .int (nI V.1)]), .inl (8, .inl (me))] : List xE) = [.inr (3, [.ref 1, .ref 2, .ref 3, .ref 4, .ref 5, .ref 6, .int (nI V.1)]), .inl (8, .inl (mks')), .inl (8, .inr (.inr (.inr (.inr (gmap))))), .inl (3, .inr (.inr (.inr (.inr (fmap))))), .inl (3, .inr (.inr (.inr (.inr (tmap))))), .inl (3, .inr (.inl (we))), .inl (2, .inr (.inl (pa))), .inl (3, .inr (.inl (fun i => zl (q' 0 i)))), .inl (3, .inr (.inl (fun i => zl (q' 1 i)))), .inl (3, .inr (.inl (fun i => zl (q' 2 i)))), .inl (3, .inr (.inl (fun i => zl (q' 3 i)))), .inl (3, .inr (.inl (fun i => zl (q' 4 i)))), .inl (3, .inr (.inl (fun i => zl (q' 5 i)))), .inl (3, .inr (.inl (fun i => zl (q' 6 i)))), .inl (3, .inr (.inl (fun i => zl (q' 7 i)))), .inl (3, .inr (.inl (f0))), .inl (3, .inr (.inl (f1))), .inl (3, .inr (.inl (f2))), .inl (3, .inr (.inl (t0))), .inl (3, .inr (.inl (t1))), .inl (3, .inr (.inl (t2))), .inr (5, [.ref 22, .ref 23, .int (nI 60), .int (nI S.1)]), .inl (60, .inl (so)), .inl (540, .inl (ce)), .inr (2, [.ref 25, .int (nI 8), .int (nI V.1)]), .inl (8, .inl (me))] := by
    intro mks q h1 h2
    refine ⟨mks, q, rfl, ⟨hV8, fun k hk => ⟨h1 k hk, hS2 _ (hV.2 k hk).2⟩, fun k i hk hi => ?_⟩, h2, rfl⟩
    rw [h2 k i hk hi]
    have hl := (hV.2 k hk).2
    have hw : i < wd (S.2.1 (V.2 k)) := by unfold wd; split; omega; split <;> omega
    exact (hS.2.2 _ i hl hw).2
  have s8 : V.1 = 8 → ∀ (mks : Nat → Int32) (q : Nat → Nat → Int), (∀ j, j < 8 → mks j = nI (gs S V j)) → (∀ j i, j < 8 → i < 3 → q j i = gq S V j i) → X 15 [some (.ref 0), some (.ref 21), some (.ref 24), some (.int (nI 8))] [] [.inr (3, [.ref 1, .ref 2, .ref 3, .ref 4, .ref 5, .ref 6, .int (nI V.1)]), .inl (8, .inl (mks)), .inl (8, .inr (.inr (.inr (.inr (gmap))))), .inl (3, .inr (.inr (.inr (.inr (fmap))))), .inl (3, .inr (.inr (.inr (.inr (tmap))))), .inl (3, .inr (.inl (we))), .inl (2, .inr (.inl (pa))), .inl (3, .inr (.inl (fun i => zl (q 0 i)))), .inl (3, .inr (.inl (fun i => zl (q 1 i)))), .inl (3, .inr (.inl (fun i => zl (q 2 i)))), .inl (3, .inr (.inl (fun i => zl (q 3 i)))), .inl (3, .inr (.inl (fun i => zl (q 4 i)))), .inl (3, .inr (.inl (fun i => zl (q 5 i)))), .inl (3, .inr (.inl (fun i => zl (q 6 i)))), .inl (3, .inr (.inl (fun i => zl (q 7 i)))), .inl (3, .inr (.inl (f0))), .inl (3, .inr (.inl (f1))), .inl (3, .inr (.inl (f2))), .inl (3, .inr (.inl (t0))), .inl (3, .inr (.inl (t1))), .inl (3, .inr (.inl (t2))), .inr (5, [.ref 22, .ref 23, .int (nI 60), .int (nI S.1)]), .inl (60, .inl (so)), .inl (540, .inl (ce)), .inr (2, [.ref 25, .int (nI 8), .int (nI V.1)]), .inl (8, .inl (me))] := by
    intro hv mks q h1 h2
    refine hX.run (ft := ftX5) (ct := ctX5) (oc := [(79, oMinI)]) kX5_take_ok ftX5_ok ctX5_ok hoc [] [] [] 100 ?_
    refine ⟨fun _ => ?_, fun h => absurd (by rw [hv]; exact nI_le (Nat.le_refl 8) (by omega)) h⟩
    exact fin mks q (fun j hj => h1 j (by omega)) (fun j i hj hi => h2 j i (by omega) hi)
  have s7 : 7 ≤ V.1 → ∀ (mks : Nat → Int32) (q : Nat → Nat → Int), (∀ j, j < 7 → mks j = nI (gs S V j)) → (∀ j i, j < 7 → i < 3 → q j i = gq S V j i) → X 15 [some (.ref 0), some (.ref 21), some (.ref 24), some (.int (nI 7))] [] [.inr (3, [.ref 1, .ref 2, .ref 3, .ref 4, .ref 5, .ref 6, .int (nI V.1)]), .inl (8, .inl (mks)), .inl (8, .inr (.inr (.inr (.inr (gmap))))), .inl (3, .inr (.inr (.inr (.inr (fmap))))), .inl (3, .inr (.inr (.inr (.inr (tmap))))), .inl (3, .inr (.inl (we))), .inl (2, .inr (.inl (pa))), .inl (3, .inr (.inl (fun i => zl (q 0 i)))), .inl (3, .inr (.inl (fun i => zl (q 1 i)))), .inl (3, .inr (.inl (fun i => zl (q 2 i)))), .inl (3, .inr (.inl (fun i => zl (q 3 i)))), .inl (3, .inr (.inl (fun i => zl (q 4 i)))), .inl (3, .inr (.inl (fun i => zl (q 5 i)))), .inl (3, .inr (.inl (fun i => zl (q 6 i)))), .inl (3, .inr (.inl (fun i => zl (q 7 i)))), .inl (3, .inr (.inl (f0))), .inl (3, .inr (.inl (f1))), .inl (3, .inr (.inl (f2))), .inl (3, .inr (.inl (t0))), .inl (3, .inr (.inl (t1))), .inl (3, .inr (.inl (t2))), .inr (5, [.ref 22, .ref 23, .int (nI 60), .int (nI S.1)]), .inl (60, .inl (so)), .inl (540, .inl (ce)), .inr (2, [.ref 25, .int (nI 8), .int (nI V.1)]), .inl (8, .inl (me))] := by
    intro hk mks q h1 h2
    refine hX.run (ft := ftX5) (ct := ctX5) (oc := [(79, oMinI)]) kX5_take_ok ftX5_ok ctX5_ok hoc [15] [] [] 100 ?_
    refine ⟨fun h => ?_, fun h => ?_⟩
    · have hv : V.1 = 7 := by
        have h3 : nI V.1 ≤ nI 7 := h
        rw [nI_leI (by omega) (by omega)] at h3
        omega
      exact fin mks q (fun j hj => h1 j (by omega)) (fun j i hj hi => h2 j i (by omega) hi)
    have hlt : 7 < V.1 := by
      have h3 : ¬ nI V.1 ≤ nI 7 := h
      rw [nI_leI (by omega) (by omega)] at h3
      omega
    have hv := hV.2 7 hlt
    have e1 : (nI (V.2 7)).toInt = (V.2 7 : Int) := nI_toInt (by omega)
    have es : srtI S (nI (V.2 7)).toInt = (gs S V 7 : Int) := by
      unfold srtI
      rw [e1, if_pos ⟨by omega, by omega⟩]
      rfl
    have hw3 : 3 ≤ wd (S.2.1 (V.2 7)) := by unfold wd; split; omega; split <;> omega
    refine hX.callV [24, 25] [.ref 21, .int (nI 7), .ref 1] (k_member l V 8 S.1 (by omega) (by omega) me hV 7 hlt) yX4_member_ok lkX5_48 ivX4_member slX4_member ⟨rfl, rfl, by decide, by decide⟩ (kX5_take_ok.at 31 rfl) rfl rfl (xrs_ok rfl) rfl rfl rfl ⟨rfl, rfl, trivial⟩ rfl (fun _ _ q => by rw [q.2]) (fun r9 G1 q => ?_)
    obtain ⟨rfl, rfl⟩ := q
    refine hX.run (ft := ftX5) (ct := ctX5) (oc := [(79, oMinI)]) kX5_take_ok ftX5_ok ctX5_ok hoc [] [] [] 100 ?_
    refine hX.callV [21, 22, 23] [.int (nI 7), .ref 1] (k_sortOf l S 60 so ce hS (nI (V.2 7))) yX8_sortOf_ok lkX5_52 ivX8_sortOf slX8_sortOf ⟨rfl, rfl, by decide, by decide⟩ (kX5_take_ok.at 34 rfl) rfl rfl (xrs_ok rfl) rfl rfl rfl ⟨rfl, rfl, rfl, trivial⟩ rfl (fun _ _ q => by rw [q.2]) (fun r9 G1 q => ?_)
    obtain ⟨rfl, rfl⟩ := q
    rw [es, zi_nI]
    refine hX.run (ft := ftX5) (ct := ctX5) (oc := [(79, oMinI)]) kX5_take_ok ftX5_ok ctX5_ok hoc [] [] [] 100 ?_
    refine hX.callV [24, 25] [.ref 21] (k_member l V 8 S.1 (by omega) (by omega) me hV 7 hlt) yX4_member_ok lkX5_48 ivX4_member slX4_member ⟨rfl, rfl, by decide, by decide⟩ (kX5_take_ok.at 41 rfl) rfl rfl (xrs_ok rfl) rfl rfl rfl ⟨rfl, rfl, trivial⟩ rfl (fun _ _ q => by rw [q.2]) (fun r9 G1 q => ?_)
    obtain ⟨rfl, rfl⟩ := q
    refine hX.run (ft := ftX5) (ct := ctX5) (oc := [(79, oMinI)]) kX5_take_ok ftX5_ok ctX5_ok hoc [] [] [] 100 ?_
    refine hX.callV [21, 22, 23, 14] [] (k_load l S 60 so ce hS (V.2 7) hv.2 3 hw3 _) yX8_load_ok lkX5_57 ivX8_load slX8_load ⟨rfl, rfl, by decide, by decide⟩ (kX5_take_ok.at 50 rfl) rfl rfl (by decide) rfl rfl rfl ⟨rfl, rfl, rfl, rfl, trivial⟩ rfl (fun _ _ q => by rw [q.2]; rfl) (fun r9 G1 q => ?_)
    obtain ⟨rfl, rfl⟩ := q
    refine hX.run (ft := ftX5) (ct := ctX5) (oc := [(79, oMinI)]) kX5_take_ok ftX5_ok ctX5_ok hoc [15] [] [] 100 ?_
    exact s8 (by omega) (upd mks 7 (nI (gs S V 7))) (fun j i => if j = 7 then gq S V 7 i else q j i) (fun j hj => by
      unfold upd
      by_cases e : j = 7
      · subst e; rw [if_pos rfl]
      · rw [if_neg e]; exact h1 j (by omega)) (fun j i hj hi => by
      try dsimp only
      by_cases e : j = 7
      · rw [if_pos e, e]
      · rw [if_neg e]; exact h2 j i (by omega) hi)
  have s6 : 6 ≤ V.1 → ∀ (mks : Nat → Int32) (q : Nat → Nat → Int), (∀ j, j < 6 → mks j = nI (gs S V j)) → (∀ j i, j < 6 → i < 3 → q j i = gq S V j i) → X 15 [some (.ref 0), some (.ref 21), some (.ref 24), some (.int (nI 6))] [] [.inr (3, [.ref 1, .ref 2, .ref 3, .ref 4, .ref 5, .ref 6, .int (nI V.1)]), .inl (8, .inl (mks)), .inl (8, .inr (.inr (.inr (.inr (gmap))))), .inl (3, .inr (.inr (.inr (.inr (fmap))))), .inl (3, .inr (.inr (.inr (.inr (tmap))))), .inl (3, .inr (.inl (we))), .inl (2, .inr (.inl (pa))), .inl (3, .inr (.inl (fun i => zl (q 0 i)))), .inl (3, .inr (.inl (fun i => zl (q 1 i)))), .inl (3, .inr (.inl (fun i => zl (q 2 i)))), .inl (3, .inr (.inl (fun i => zl (q 3 i)))), .inl (3, .inr (.inl (fun i => zl (q 4 i)))), .inl (3, .inr (.inl (fun i => zl (q 5 i)))), .inl (3, .inr (.inl (fun i => zl (q 6 i)))), .inl (3, .inr (.inl (fun i => zl (q 7 i)))), .inl (3, .inr (.inl (f0))), .inl (3, .inr (.inl (f1))), .inl (3, .inr (.inl (f2))), .inl (3, .inr (.inl (t0))), .inl (3, .inr (.inl (t1))), .inl (3, .inr (.inl (t2))), .inr (5, [.ref 22, .ref 23, .int (nI 60), .int (nI S.1)]), .inl (60, .inl (so)), .inl (540, .inl (ce)), .inr (2, [.ref 25, .int (nI 8), .int (nI V.1)]), .inl (8, .inl (me))] := by
    intro hk mks q h1 h2
    refine hX.run (ft := ftX5) (ct := ctX5) (oc := [(79, oMinI)]) kX5_take_ok ftX5_ok ctX5_ok hoc [15] [] [] 100 ?_
    refine ⟨fun h => ?_, fun h => ?_⟩
    · have hv : V.1 = 6 := by
        have h3 : nI V.1 ≤ nI 6 := h
        rw [nI_leI (by omega) (by omega)] at h3
        omega
      exact fin mks q (fun j hj => h1 j (by omega)) (fun j i hj hi => h2 j i (by omega) hi)
    have hlt : 6 < V.1 := by
      have h3 : ¬ nI V.1 ≤ nI 6 := h
      rw [nI_leI (by omega) (by omega)] at h3
      omega
    have hv := hV.2 6 hlt
    have e1 : (nI (V.2 6)).toInt = (V.2 6 : Int) := nI_toInt (by omega)
    have es : srtI S (nI (V.2 6)).toInt = (gs S V 6 : Int) := by
      unfold srtI
      rw [e1, if_pos ⟨by omega, by omega⟩]
      rfl
    have hw3 : 3 ≤ wd (S.2.1 (V.2 6)) := by unfold wd; split; omega; split <;> omega
    refine hX.callV [24, 25] [.ref 21, .int (nI 6), .ref 1] (k_member l V 8 S.1 (by omega) (by omega) me hV 6 hlt) yX4_member_ok lkX5_48 ivX4_member slX4_member ⟨rfl, rfl, by decide, by decide⟩ (kX5_take_ok.at 31 rfl) rfl rfl (xrs_ok rfl) rfl rfl rfl ⟨rfl, rfl, trivial⟩ rfl (fun _ _ q => by rw [q.2]) (fun r9 G1 q => ?_)
    obtain ⟨rfl, rfl⟩ := q
    refine hX.run (ft := ftX5) (ct := ctX5) (oc := [(79, oMinI)]) kX5_take_ok ftX5_ok ctX5_ok hoc [] [] [] 100 ?_
    refine hX.callV [21, 22, 23] [.int (nI 6), .ref 1] (k_sortOf l S 60 so ce hS (nI (V.2 6))) yX8_sortOf_ok lkX5_52 ivX8_sortOf slX8_sortOf ⟨rfl, rfl, by decide, by decide⟩ (kX5_take_ok.at 34 rfl) rfl rfl (xrs_ok rfl) rfl rfl rfl ⟨rfl, rfl, rfl, trivial⟩ rfl (fun _ _ q => by rw [q.2]) (fun r9 G1 q => ?_)
    obtain ⟨rfl, rfl⟩ := q
    rw [es, zi_nI]
    refine hX.run (ft := ftX5) (ct := ctX5) (oc := [(79, oMinI)]) kX5_take_ok ftX5_ok ctX5_ok hoc [] [] [] 100 ?_
    refine hX.callV [24, 25] [.ref 21] (k_member l V 8 S.1 (by omega) (by omega) me hV 6 hlt) yX4_member_ok lkX5_48 ivX4_member slX4_member ⟨rfl, rfl, by decide, by decide⟩ (kX5_take_ok.at 41 rfl) rfl rfl (xrs_ok rfl) rfl rfl rfl ⟨rfl, rfl, trivial⟩ rfl (fun _ _ q => by rw [q.2]) (fun r9 G1 q => ?_)
    obtain ⟨rfl, rfl⟩ := q
    refine hX.run (ft := ftX5) (ct := ctX5) (oc := [(79, oMinI)]) kX5_take_ok ftX5_ok ctX5_ok hoc [] [] [] 100 ?_
    refine hX.callV [21, 22, 23, 13] [] (k_load l S 60 so ce hS (V.2 6) hv.2 3 hw3 _) yX8_load_ok lkX5_57 ivX8_load slX8_load ⟨rfl, rfl, by decide, by decide⟩ (kX5_take_ok.at 50 rfl) rfl rfl (by decide) rfl rfl rfl ⟨rfl, rfl, rfl, rfl, trivial⟩ rfl (fun _ _ q => by rw [q.2]; rfl) (fun r9 G1 q => ?_)
    obtain ⟨rfl, rfl⟩ := q
    refine hX.run (ft := ftX5) (ct := ctX5) (oc := [(79, oMinI)]) kX5_take_ok ftX5_ok ctX5_ok hoc [15] [] [] 100 ?_
    exact s7 (by omega) (upd mks 6 (nI (gs S V 6))) (fun j i => if j = 6 then gq S V 6 i else q j i) (fun j hj => by
      unfold upd
      by_cases e : j = 6
      · subst e; rw [if_pos rfl]
      · rw [if_neg e]; exact h1 j (by omega)) (fun j i hj hi => by
      try dsimp only
      by_cases e : j = 6
      · rw [if_pos e, e]
      · rw [if_neg e]; exact h2 j i (by omega) hi)
  have s5 : 5 ≤ V.1 → ∀ (mks : Nat → Int32) (q : Nat → Nat → Int), (∀ j, j < 5 → mks j = nI (gs S V j)) → (∀ j i, j < 5 → i < 3 → q j i = gq S V j i) → X 15 [some (.ref 0), some (.ref 21), some (.ref 24), some (.int (nI 5))] [] [.inr (3, [.ref 1, .ref 2, .ref 3, .ref 4, .ref 5, .ref 6, .int (nI V.1)]), .inl (8, .inl (mks)), .inl (8, .inr (.inr (.inr (.inr (gmap))))), .inl (3, .inr (.inr (.inr (.inr (fmap))))), .inl (3, .inr (.inr (.inr (.inr (tmap))))), .inl (3, .inr (.inl (we))), .inl (2, .inr (.inl (pa))), .inl (3, .inr (.inl (fun i => zl (q 0 i)))), .inl (3, .inr (.inl (fun i => zl (q 1 i)))), .inl (3, .inr (.inl (fun i => zl (q 2 i)))), .inl (3, .inr (.inl (fun i => zl (q 3 i)))), .inl (3, .inr (.inl (fun i => zl (q 4 i)))), .inl (3, .inr (.inl (fun i => zl (q 5 i)))), .inl (3, .inr (.inl (fun i => zl (q 6 i)))), .inl (3, .inr (.inl (fun i => zl (q 7 i)))), .inl (3, .inr (.inl (f0))), .inl (3, .inr (.inl (f1))), .inl (3, .inr (.inl (f2))), .inl (3, .inr (.inl (t0))), .inl (3, .inr (.inl (t1))), .inl (3, .inr (.inl (t2))), .inr (5, [.ref 22, .ref 23, .int (nI 60), .int (nI S.1)]), .inl (60, .inl (so)), .inl (540, .inl (ce)), .inr (2, [.ref 25, .int (nI 8), .int (nI V.1)]), .inl (8, .inl (me))] := by
    intro hk mks q h1 h2
    refine hX.run (ft := ftX5) (ct := ctX5) (oc := [(79, oMinI)]) kX5_take_ok ftX5_ok ctX5_ok hoc [15] [] [] 100 ?_
    refine ⟨fun h => ?_, fun h => ?_⟩
    · have hv : V.1 = 5 := by
        have h3 : nI V.1 ≤ nI 5 := h
        rw [nI_leI (by omega) (by omega)] at h3
        omega
      exact fin mks q (fun j hj => h1 j (by omega)) (fun j i hj hi => h2 j i (by omega) hi)
    have hlt : 5 < V.1 := by
      have h3 : ¬ nI V.1 ≤ nI 5 := h
      rw [nI_leI (by omega) (by omega)] at h3
      omega
    have hv := hV.2 5 hlt
    have e1 : (nI (V.2 5)).toInt = (V.2 5 : Int) := nI_toInt (by omega)
    have es : srtI S (nI (V.2 5)).toInt = (gs S V 5 : Int) := by
      unfold srtI
      rw [e1, if_pos ⟨by omega, by omega⟩]
      rfl
    have hw3 : 3 ≤ wd (S.2.1 (V.2 5)) := by unfold wd; split; omega; split <;> omega
    refine hX.callV [24, 25] [.ref 21, .int (nI 5), .ref 1] (k_member l V 8 S.1 (by omega) (by omega) me hV 5 hlt) yX4_member_ok lkX5_48 ivX4_member slX4_member ⟨rfl, rfl, by decide, by decide⟩ (kX5_take_ok.at 31 rfl) rfl rfl (xrs_ok rfl) rfl rfl rfl ⟨rfl, rfl, trivial⟩ rfl (fun _ _ q => by rw [q.2]) (fun r9 G1 q => ?_)
    obtain ⟨rfl, rfl⟩ := q
    refine hX.run (ft := ftX5) (ct := ctX5) (oc := [(79, oMinI)]) kX5_take_ok ftX5_ok ctX5_ok hoc [] [] [] 100 ?_
    refine hX.callV [21, 22, 23] [.int (nI 5), .ref 1] (k_sortOf l S 60 so ce hS (nI (V.2 5))) yX8_sortOf_ok lkX5_52 ivX8_sortOf slX8_sortOf ⟨rfl, rfl, by decide, by decide⟩ (kX5_take_ok.at 34 rfl) rfl rfl (xrs_ok rfl) rfl rfl rfl ⟨rfl, rfl, rfl, trivial⟩ rfl (fun _ _ q => by rw [q.2]) (fun r9 G1 q => ?_)
    obtain ⟨rfl, rfl⟩ := q
    rw [es, zi_nI]
    refine hX.run (ft := ftX5) (ct := ctX5) (oc := [(79, oMinI)]) kX5_take_ok ftX5_ok ctX5_ok hoc [] [] [] 100 ?_
    refine hX.callV [24, 25] [.ref 21] (k_member l V 8 S.1 (by omega) (by omega) me hV 5 hlt) yX4_member_ok lkX5_48 ivX4_member slX4_member ⟨rfl, rfl, by decide, by decide⟩ (kX5_take_ok.at 41 rfl) rfl rfl (xrs_ok rfl) rfl rfl rfl ⟨rfl, rfl, trivial⟩ rfl (fun _ _ q => by rw [q.2]) (fun r9 G1 q => ?_)
    obtain ⟨rfl, rfl⟩ := q
    refine hX.run (ft := ftX5) (ct := ctX5) (oc := [(79, oMinI)]) kX5_take_ok ftX5_ok ctX5_ok hoc [] [] [] 100 ?_
    refine hX.callV [21, 22, 23, 12] [] (k_load l S 60 so ce hS (V.2 5) hv.2 3 hw3 _) yX8_load_ok lkX5_57 ivX8_load slX8_load ⟨rfl, rfl, by decide, by decide⟩ (kX5_take_ok.at 50 rfl) rfl rfl (by decide) rfl rfl rfl ⟨rfl, rfl, rfl, rfl, trivial⟩ rfl (fun _ _ q => by rw [q.2]; rfl) (fun r9 G1 q => ?_)
    obtain ⟨rfl, rfl⟩ := q
    refine hX.run (ft := ftX5) (ct := ctX5) (oc := [(79, oMinI)]) kX5_take_ok ftX5_ok ctX5_ok hoc [15] [] [] 100 ?_
    exact s6 (by omega) (upd mks 5 (nI (gs S V 5))) (fun j i => if j = 5 then gq S V 5 i else q j i) (fun j hj => by
      unfold upd
      by_cases e : j = 5
      · subst e; rw [if_pos rfl]
      · rw [if_neg e]; exact h1 j (by omega)) (fun j i hj hi => by
      try dsimp only
      by_cases e : j = 5
      · rw [if_pos e, e]
      · rw [if_neg e]; exact h2 j i (by omega) hi)
  have s4 : 4 ≤ V.1 → ∀ (mks : Nat → Int32) (q : Nat → Nat → Int), (∀ j, j < 4 → mks j = nI (gs S V j)) → (∀ j i, j < 4 → i < 3 → q j i = gq S V j i) → X 15 [some (.ref 0), some (.ref 21), some (.ref 24), some (.int (nI 4))] [] [.inr (3, [.ref 1, .ref 2, .ref 3, .ref 4, .ref 5, .ref 6, .int (nI V.1)]), .inl (8, .inl (mks)), .inl (8, .inr (.inr (.inr (.inr (gmap))))), .inl (3, .inr (.inr (.inr (.inr (fmap))))), .inl (3, .inr (.inr (.inr (.inr (tmap))))), .inl (3, .inr (.inl (we))), .inl (2, .inr (.inl (pa))), .inl (3, .inr (.inl (fun i => zl (q 0 i)))), .inl (3, .inr (.inl (fun i => zl (q 1 i)))), .inl (3, .inr (.inl (fun i => zl (q 2 i)))), .inl (3, .inr (.inl (fun i => zl (q 3 i)))), .inl (3, .inr (.inl (fun i => zl (q 4 i)))), .inl (3, .inr (.inl (fun i => zl (q 5 i)))), .inl (3, .inr (.inl (fun i => zl (q 6 i)))), .inl (3, .inr (.inl (fun i => zl (q 7 i)))), .inl (3, .inr (.inl (f0))), .inl (3, .inr (.inl (f1))), .inl (3, .inr (.inl (f2))), .inl (3, .inr (.inl (t0))), .inl (3, .inr (.inl (t1))), .inl (3, .inr (.inl (t2))), .inr (5, [.ref 22, .ref 23, .int (nI 60), .int (nI S.1)]), .inl (60, .inl (so)), .inl (540, .inl (ce)), .inr (2, [.ref 25, .int (nI 8), .int (nI V.1)]), .inl (8, .inl (me))] := by
    intro hk mks q h1 h2
    refine hX.run (ft := ftX5) (ct := ctX5) (oc := [(79, oMinI)]) kX5_take_ok ftX5_ok ctX5_ok hoc [15] [] [] 100 ?_
    refine ⟨fun h => ?_, fun h => ?_⟩
    · have hv : V.1 = 4 := by
        have h3 : nI V.1 ≤ nI 4 := h
        rw [nI_leI (by omega) (by omega)] at h3
        omega
      exact fin mks q (fun j hj => h1 j (by omega)) (fun j i hj hi => h2 j i (by omega) hi)
    have hlt : 4 < V.1 := by
      have h3 : ¬ nI V.1 ≤ nI 4 := h
      rw [nI_leI (by omega) (by omega)] at h3
      omega
    have hv := hV.2 4 hlt
    have e1 : (nI (V.2 4)).toInt = (V.2 4 : Int) := nI_toInt (by omega)
    have es : srtI S (nI (V.2 4)).toInt = (gs S V 4 : Int) := by
      unfold srtI
      rw [e1, if_pos ⟨by omega, by omega⟩]
      rfl
    have hw3 : 3 ≤ wd (S.2.1 (V.2 4)) := by unfold wd; split; omega; split <;> omega
    refine hX.callV [24, 25] [.ref 21, .int (nI 4), .ref 1] (k_member l V 8 S.1 (by omega) (by omega) me hV 4 hlt) yX4_member_ok lkX5_48 ivX4_member slX4_member ⟨rfl, rfl, by decide, by decide⟩ (kX5_take_ok.at 31 rfl) rfl rfl (xrs_ok rfl) rfl rfl rfl ⟨rfl, rfl, trivial⟩ rfl (fun _ _ q => by rw [q.2]) (fun r9 G1 q => ?_)
    obtain ⟨rfl, rfl⟩ := q
    refine hX.run (ft := ftX5) (ct := ctX5) (oc := [(79, oMinI)]) kX5_take_ok ftX5_ok ctX5_ok hoc [] [] [] 100 ?_
    refine hX.callV [21, 22, 23] [.int (nI 4), .ref 1] (k_sortOf l S 60 so ce hS (nI (V.2 4))) yX8_sortOf_ok lkX5_52 ivX8_sortOf slX8_sortOf ⟨rfl, rfl, by decide, by decide⟩ (kX5_take_ok.at 34 rfl) rfl rfl (xrs_ok rfl) rfl rfl rfl ⟨rfl, rfl, rfl, trivial⟩ rfl (fun _ _ q => by rw [q.2]) (fun r9 G1 q => ?_)
    obtain ⟨rfl, rfl⟩ := q
    rw [es, zi_nI]
    refine hX.run (ft := ftX5) (ct := ctX5) (oc := [(79, oMinI)]) kX5_take_ok ftX5_ok ctX5_ok hoc [] [] [] 100 ?_
    refine hX.callV [24, 25] [.ref 21] (k_member l V 8 S.1 (by omega) (by omega) me hV 4 hlt) yX4_member_ok lkX5_48 ivX4_member slX4_member ⟨rfl, rfl, by decide, by decide⟩ (kX5_take_ok.at 41 rfl) rfl rfl (xrs_ok rfl) rfl rfl rfl ⟨rfl, rfl, trivial⟩ rfl (fun _ _ q => by rw [q.2]) (fun r9 G1 q => ?_)
    obtain ⟨rfl, rfl⟩ := q
    refine hX.run (ft := ftX5) (ct := ctX5) (oc := [(79, oMinI)]) kX5_take_ok ftX5_ok ctX5_ok hoc [] [] [] 100 ?_
    refine hX.callV [21, 22, 23, 11] [] (k_load l S 60 so ce hS (V.2 4) hv.2 3 hw3 _) yX8_load_ok lkX5_57 ivX8_load slX8_load ⟨rfl, rfl, by decide, by decide⟩ (kX5_take_ok.at 50 rfl) rfl rfl (by decide) rfl rfl rfl ⟨rfl, rfl, rfl, rfl, trivial⟩ rfl (fun _ _ q => by rw [q.2]; rfl) (fun r9 G1 q => ?_)
    obtain ⟨rfl, rfl⟩ := q
    refine hX.run (ft := ftX5) (ct := ctX5) (oc := [(79, oMinI)]) kX5_take_ok ftX5_ok ctX5_ok hoc [15] [] [] 100 ?_
    exact s5 (by omega) (upd mks 4 (nI (gs S V 4))) (fun j i => if j = 4 then gq S V 4 i else q j i) (fun j hj => by
      unfold upd
      by_cases e : j = 4
      · subst e; rw [if_pos rfl]
      · rw [if_neg e]; exact h1 j (by omega)) (fun j i hj hi => by
      try dsimp only
      by_cases e : j = 4
      · rw [if_pos e, e]
      · rw [if_neg e]; exact h2 j i (by omega) hi)
  have s3 : 3 ≤ V.1 → ∀ (mks : Nat → Int32) (q : Nat → Nat → Int), (∀ j, j < 3 → mks j = nI (gs S V j)) → (∀ j i, j < 3 → i < 3 → q j i = gq S V j i) → X 15 [some (.ref 0), some (.ref 21), some (.ref 24), some (.int (nI 3))] [] [.inr (3, [.ref 1, .ref 2, .ref 3, .ref 4, .ref 5, .ref 6, .int (nI V.1)]), .inl (8, .inl (mks)), .inl (8, .inr (.inr (.inr (.inr (gmap))))), .inl (3, .inr (.inr (.inr (.inr (fmap))))), .inl (3, .inr (.inr (.inr (.inr (tmap))))), .inl (3, .inr (.inl (we))), .inl (2, .inr (.inl (pa))), .inl (3, .inr (.inl (fun i => zl (q 0 i)))), .inl (3, .inr (.inl (fun i => zl (q 1 i)))), .inl (3, .inr (.inl (fun i => zl (q 2 i)))), .inl (3, .inr (.inl (fun i => zl (q 3 i)))), .inl (3, .inr (.inl (fun i => zl (q 4 i)))), .inl (3, .inr (.inl (fun i => zl (q 5 i)))), .inl (3, .inr (.inl (fun i => zl (q 6 i)))), .inl (3, .inr (.inl (fun i => zl (q 7 i)))), .inl (3, .inr (.inl (f0))), .inl (3, .inr (.inl (f1))), .inl (3, .inr (.inl (f2))), .inl (3, .inr (.inl (t0))), .inl (3, .inr (.inl (t1))), .inl (3, .inr (.inl (t2))), .inr (5, [.ref 22, .ref 23, .int (nI 60), .int (nI S.1)]), .inl (60, .inl (so)), .inl (540, .inl (ce)), .inr (2, [.ref 25, .int (nI 8), .int (nI V.1)]), .inl (8, .inl (me))] := by
    intro hk mks q h1 h2
    refine hX.run (ft := ftX5) (ct := ctX5) (oc := [(79, oMinI)]) kX5_take_ok ftX5_ok ctX5_ok hoc [15] [] [] 100 ?_
    refine ⟨fun h => ?_, fun h => ?_⟩
    · have hv : V.1 = 3 := by
        have h3 : nI V.1 ≤ nI 3 := h
        rw [nI_leI (by omega) (by omega)] at h3
        omega
      exact fin mks q (fun j hj => h1 j (by omega)) (fun j i hj hi => h2 j i (by omega) hi)
    have hlt : 3 < V.1 := by
      have h3 : ¬ nI V.1 ≤ nI 3 := h
      rw [nI_leI (by omega) (by omega)] at h3
      omega
    have hv := hV.2 3 hlt
    have e1 : (nI (V.2 3)).toInt = (V.2 3 : Int) := nI_toInt (by omega)
    have es : srtI S (nI (V.2 3)).toInt = (gs S V 3 : Int) := by
      unfold srtI
      rw [e1, if_pos ⟨by omega, by omega⟩]
      rfl
    have hw3 : 3 ≤ wd (S.2.1 (V.2 3)) := by unfold wd; split; omega; split <;> omega
    refine hX.callV [24, 25] [.ref 21, .int (nI 3), .ref 1] (k_member l V 8 S.1 (by omega) (by omega) me hV 3 hlt) yX4_member_ok lkX5_48 ivX4_member slX4_member ⟨rfl, rfl, by decide, by decide⟩ (kX5_take_ok.at 31 rfl) rfl rfl (xrs_ok rfl) rfl rfl rfl ⟨rfl, rfl, trivial⟩ rfl (fun _ _ q => by rw [q.2]) (fun r9 G1 q => ?_)
    obtain ⟨rfl, rfl⟩ := q
    refine hX.run (ft := ftX5) (ct := ctX5) (oc := [(79, oMinI)]) kX5_take_ok ftX5_ok ctX5_ok hoc [] [] [] 100 ?_
    refine hX.callV [21, 22, 23] [.int (nI 3), .ref 1] (k_sortOf l S 60 so ce hS (nI (V.2 3))) yX8_sortOf_ok lkX5_52 ivX8_sortOf slX8_sortOf ⟨rfl, rfl, by decide, by decide⟩ (kX5_take_ok.at 34 rfl) rfl rfl (xrs_ok rfl) rfl rfl rfl ⟨rfl, rfl, rfl, trivial⟩ rfl (fun _ _ q => by rw [q.2]) (fun r9 G1 q => ?_)
    obtain ⟨rfl, rfl⟩ := q
    rw [es, zi_nI]
    refine hX.run (ft := ftX5) (ct := ctX5) (oc := [(79, oMinI)]) kX5_take_ok ftX5_ok ctX5_ok hoc [] [] [] 100 ?_
    refine hX.callV [24, 25] [.ref 21] (k_member l V 8 S.1 (by omega) (by omega) me hV 3 hlt) yX4_member_ok lkX5_48 ivX4_member slX4_member ⟨rfl, rfl, by decide, by decide⟩ (kX5_take_ok.at 41 rfl) rfl rfl (xrs_ok rfl) rfl rfl rfl ⟨rfl, rfl, trivial⟩ rfl (fun _ _ q => by rw [q.2]) (fun r9 G1 q => ?_)
    obtain ⟨rfl, rfl⟩ := q
    refine hX.run (ft := ftX5) (ct := ctX5) (oc := [(79, oMinI)]) kX5_take_ok ftX5_ok ctX5_ok hoc [] [] [] 100 ?_
    refine hX.callV [21, 22, 23, 10] [] (k_load l S 60 so ce hS (V.2 3) hv.2 3 hw3 _) yX8_load_ok lkX5_57 ivX8_load slX8_load ⟨rfl, rfl, by decide, by decide⟩ (kX5_take_ok.at 50 rfl) rfl rfl (by decide) rfl rfl rfl ⟨rfl, rfl, rfl, rfl, trivial⟩ rfl (fun _ _ q => by rw [q.2]; rfl) (fun r9 G1 q => ?_)
    obtain ⟨rfl, rfl⟩ := q
    refine hX.run (ft := ftX5) (ct := ctX5) (oc := [(79, oMinI)]) kX5_take_ok ftX5_ok ctX5_ok hoc [15] [] [] 100 ?_
    exact s4 (by omega) (upd mks 3 (nI (gs S V 3))) (fun j i => if j = 3 then gq S V 3 i else q j i) (fun j hj => by
      unfold upd
      by_cases e : j = 3
      · subst e; rw [if_pos rfl]
      · rw [if_neg e]; exact h1 j (by omega)) (fun j i hj hi => by
      try dsimp only
      by_cases e : j = 3
      · rw [if_pos e, e]
      · rw [if_neg e]; exact h2 j i (by omega) hi)
  have s2 : 2 ≤ V.1 → ∀ (mks : Nat → Int32) (q : Nat → Nat → Int), (∀ j, j < 2 → mks j = nI (gs S V j)) → (∀ j i, j < 2 → i < 3 → q j i = gq S V j i) → X 15 [some (.ref 0), some (.ref 21), some (.ref 24), some (.int (nI 2))] [] [.inr (3, [.ref 1, .ref 2, .ref 3, .ref 4, .ref 5, .ref 6, .int (nI V.1)]), .inl (8, .inl (mks)), .inl (8, .inr (.inr (.inr (.inr (gmap))))), .inl (3, .inr (.inr (.inr (.inr (fmap))))), .inl (3, .inr (.inr (.inr (.inr (tmap))))), .inl (3, .inr (.inl (we))), .inl (2, .inr (.inl (pa))), .inl (3, .inr (.inl (fun i => zl (q 0 i)))), .inl (3, .inr (.inl (fun i => zl (q 1 i)))), .inl (3, .inr (.inl (fun i => zl (q 2 i)))), .inl (3, .inr (.inl (fun i => zl (q 3 i)))), .inl (3, .inr (.inl (fun i => zl (q 4 i)))), .inl (3, .inr (.inl (fun i => zl (q 5 i)))), .inl (3, .inr (.inl (fun i => zl (q 6 i)))), .inl (3, .inr (.inl (fun i => zl (q 7 i)))), .inl (3, .inr (.inl (f0))), .inl (3, .inr (.inl (f1))), .inl (3, .inr (.inl (f2))), .inl (3, .inr (.inl (t0))), .inl (3, .inr (.inl (t1))), .inl (3, .inr (.inl (t2))), .inr (5, [.ref 22, .ref 23, .int (nI 60), .int (nI S.1)]), .inl (60, .inl (so)), .inl (540, .inl (ce)), .inr (2, [.ref 25, .int (nI 8), .int (nI V.1)]), .inl (8, .inl (me))] := by
    intro hk mks q h1 h2
    refine hX.run (ft := ftX5) (ct := ctX5) (oc := [(79, oMinI)]) kX5_take_ok ftX5_ok ctX5_ok hoc [15] [] [] 100 ?_
    refine ⟨fun h => ?_, fun h => ?_⟩
    · have hv : V.1 = 2 := by
        have h3 : nI V.1 ≤ nI 2 := h
        rw [nI_leI (by omega) (by omega)] at h3
        omega
      exact fin mks q (fun j hj => h1 j (by omega)) (fun j i hj hi => h2 j i (by omega) hi)
    have hlt : 2 < V.1 := by
      have h3 : ¬ nI V.1 ≤ nI 2 := h
      rw [nI_leI (by omega) (by omega)] at h3
      omega
    have hv := hV.2 2 hlt
    have e1 : (nI (V.2 2)).toInt = (V.2 2 : Int) := nI_toInt (by omega)
    have es : srtI S (nI (V.2 2)).toInt = (gs S V 2 : Int) := by
      unfold srtI
      rw [e1, if_pos ⟨by omega, by omega⟩]
      rfl
    have hw3 : 3 ≤ wd (S.2.1 (V.2 2)) := by unfold wd; split; omega; split <;> omega
    refine hX.callV [24, 25] [.ref 21, .int (nI 2), .ref 1] (k_member l V 8 S.1 (by omega) (by omega) me hV 2 hlt) yX4_member_ok lkX5_48 ivX4_member slX4_member ⟨rfl, rfl, by decide, by decide⟩ (kX5_take_ok.at 31 rfl) rfl rfl (xrs_ok rfl) rfl rfl rfl ⟨rfl, rfl, trivial⟩ rfl (fun _ _ q => by rw [q.2]) (fun r9 G1 q => ?_)
    obtain ⟨rfl, rfl⟩ := q
    refine hX.run (ft := ftX5) (ct := ctX5) (oc := [(79, oMinI)]) kX5_take_ok ftX5_ok ctX5_ok hoc [] [] [] 100 ?_
    refine hX.callV [21, 22, 23] [.int (nI 2), .ref 1] (k_sortOf l S 60 so ce hS (nI (V.2 2))) yX8_sortOf_ok lkX5_52 ivX8_sortOf slX8_sortOf ⟨rfl, rfl, by decide, by decide⟩ (kX5_take_ok.at 34 rfl) rfl rfl (xrs_ok rfl) rfl rfl rfl ⟨rfl, rfl, rfl, trivial⟩ rfl (fun _ _ q => by rw [q.2]) (fun r9 G1 q => ?_)
    obtain ⟨rfl, rfl⟩ := q
    rw [es, zi_nI]
    refine hX.run (ft := ftX5) (ct := ctX5) (oc := [(79, oMinI)]) kX5_take_ok ftX5_ok ctX5_ok hoc [] [] [] 100 ?_
    refine hX.callV [24, 25] [.ref 21] (k_member l V 8 S.1 (by omega) (by omega) me hV 2 hlt) yX4_member_ok lkX5_48 ivX4_member slX4_member ⟨rfl, rfl, by decide, by decide⟩ (kX5_take_ok.at 41 rfl) rfl rfl (xrs_ok rfl) rfl rfl rfl ⟨rfl, rfl, trivial⟩ rfl (fun _ _ q => by rw [q.2]) (fun r9 G1 q => ?_)
    obtain ⟨rfl, rfl⟩ := q
    refine hX.run (ft := ftX5) (ct := ctX5) (oc := [(79, oMinI)]) kX5_take_ok ftX5_ok ctX5_ok hoc [] [] [] 100 ?_
    refine hX.callV [21, 22, 23, 9] [] (k_load l S 60 so ce hS (V.2 2) hv.2 3 hw3 _) yX8_load_ok lkX5_57 ivX8_load slX8_load ⟨rfl, rfl, by decide, by decide⟩ (kX5_take_ok.at 50 rfl) rfl rfl (by decide) rfl rfl rfl ⟨rfl, rfl, rfl, rfl, trivial⟩ rfl (fun _ _ q => by rw [q.2]; rfl) (fun r9 G1 q => ?_)
    obtain ⟨rfl, rfl⟩ := q
    refine hX.run (ft := ftX5) (ct := ctX5) (oc := [(79, oMinI)]) kX5_take_ok ftX5_ok ctX5_ok hoc [15] [] [] 100 ?_
    exact s3 (by omega) (upd mks 2 (nI (gs S V 2))) (fun j i => if j = 2 then gq S V 2 i else q j i) (fun j hj => by
      unfold upd
      by_cases e : j = 2
      · subst e; rw [if_pos rfl]
      · rw [if_neg e]; exact h1 j (by omega)) (fun j i hj hi => by
      try dsimp only
      by_cases e : j = 2
      · rw [if_pos e, e]
      · rw [if_neg e]; exact h2 j i (by omega) hi)
  have s1 : 1 ≤ V.1 → ∀ (mks : Nat → Int32) (q : Nat → Nat → Int), (∀ j, j < 1 → mks j = nI (gs S V j)) → (∀ j i, j < 1 → i < 3 → q j i = gq S V j i) → X 15 [some (.ref 0), some (.ref 21), some (.ref 24), some (.int (nI 1))] [] [.inr (3, [.ref 1, .ref 2, .ref 3, .ref 4, .ref 5, .ref 6, .int (nI V.1)]), .inl (8, .inl (mks)), .inl (8, .inr (.inr (.inr (.inr (gmap))))), .inl (3, .inr (.inr (.inr (.inr (fmap))))), .inl (3, .inr (.inr (.inr (.inr (tmap))))), .inl (3, .inr (.inl (we))), .inl (2, .inr (.inl (pa))), .inl (3, .inr (.inl (fun i => zl (q 0 i)))), .inl (3, .inr (.inl (fun i => zl (q 1 i)))), .inl (3, .inr (.inl (fun i => zl (q 2 i)))), .inl (3, .inr (.inl (fun i => zl (q 3 i)))), .inl (3, .inr (.inl (fun i => zl (q 4 i)))), .inl (3, .inr (.inl (fun i => zl (q 5 i)))), .inl (3, .inr (.inl (fun i => zl (q 6 i)))), .inl (3, .inr (.inl (fun i => zl (q 7 i)))), .inl (3, .inr (.inl (f0))), .inl (3, .inr (.inl (f1))), .inl (3, .inr (.inl (f2))), .inl (3, .inr (.inl (t0))), .inl (3, .inr (.inl (t1))), .inl (3, .inr (.inl (t2))), .inr (5, [.ref 22, .ref 23, .int (nI 60), .int (nI S.1)]), .inl (60, .inl (so)), .inl (540, .inl (ce)), .inr (2, [.ref 25, .int (nI 8), .int (nI V.1)]), .inl (8, .inl (me))] := by
    intro hk mks q h1 h2
    refine hX.run (ft := ftX5) (ct := ctX5) (oc := [(79, oMinI)]) kX5_take_ok ftX5_ok ctX5_ok hoc [15] [] [] 100 ?_
    refine ⟨fun h => ?_, fun h => ?_⟩
    · have hv : V.1 = 1 := by
        have h3 : nI V.1 ≤ nI 1 := h
        rw [nI_leI (by omega) (by omega)] at h3
        omega
      exact fin mks q (fun j hj => h1 j (by omega)) (fun j i hj hi => h2 j i (by omega) hi)
    have hlt : 1 < V.1 := by
      have h3 : ¬ nI V.1 ≤ nI 1 := h
      rw [nI_leI (by omega) (by omega)] at h3
      omega
    have hv := hV.2 1 hlt
    have e1 : (nI (V.2 1)).toInt = (V.2 1 : Int) := nI_toInt (by omega)
    have es : srtI S (nI (V.2 1)).toInt = (gs S V 1 : Int) := by
      unfold srtI
      rw [e1, if_pos ⟨by omega, by omega⟩]
      rfl
    have hw3 : 3 ≤ wd (S.2.1 (V.2 1)) := by unfold wd; split; omega; split <;> omega
    refine hX.callV [24, 25] [.ref 21, .int (nI 1), .ref 1] (k_member l V 8 S.1 (by omega) (by omega) me hV 1 hlt) yX4_member_ok lkX5_48 ivX4_member slX4_member ⟨rfl, rfl, by decide, by decide⟩ (kX5_take_ok.at 31 rfl) rfl rfl (xrs_ok rfl) rfl rfl rfl ⟨rfl, rfl, trivial⟩ rfl (fun _ _ q => by rw [q.2]) (fun r9 G1 q => ?_)
    obtain ⟨rfl, rfl⟩ := q
    refine hX.run (ft := ftX5) (ct := ctX5) (oc := [(79, oMinI)]) kX5_take_ok ftX5_ok ctX5_ok hoc [] [] [] 100 ?_
    refine hX.callV [21, 22, 23] [.int (nI 1), .ref 1] (k_sortOf l S 60 so ce hS (nI (V.2 1))) yX8_sortOf_ok lkX5_52 ivX8_sortOf slX8_sortOf ⟨rfl, rfl, by decide, by decide⟩ (kX5_take_ok.at 34 rfl) rfl rfl (xrs_ok rfl) rfl rfl rfl ⟨rfl, rfl, rfl, trivial⟩ rfl (fun _ _ q => by rw [q.2]) (fun r9 G1 q => ?_)
    obtain ⟨rfl, rfl⟩ := q
    rw [es, zi_nI]
    refine hX.run (ft := ftX5) (ct := ctX5) (oc := [(79, oMinI)]) kX5_take_ok ftX5_ok ctX5_ok hoc [] [] [] 100 ?_
    refine hX.callV [24, 25] [.ref 21] (k_member l V 8 S.1 (by omega) (by omega) me hV 1 hlt) yX4_member_ok lkX5_48 ivX4_member slX4_member ⟨rfl, rfl, by decide, by decide⟩ (kX5_take_ok.at 41 rfl) rfl rfl (xrs_ok rfl) rfl rfl rfl ⟨rfl, rfl, trivial⟩ rfl (fun _ _ q => by rw [q.2]) (fun r9 G1 q => ?_)
    obtain ⟨rfl, rfl⟩ := q
    refine hX.run (ft := ftX5) (ct := ctX5) (oc := [(79, oMinI)]) kX5_take_ok ftX5_ok ctX5_ok hoc [] [] [] 100 ?_
    refine hX.callV [21, 22, 23, 8] [] (k_load l S 60 so ce hS (V.2 1) hv.2 3 hw3 _) yX8_load_ok lkX5_57 ivX8_load slX8_load ⟨rfl, rfl, by decide, by decide⟩ (kX5_take_ok.at 50 rfl) rfl rfl (by decide) rfl rfl rfl ⟨rfl, rfl, rfl, rfl, trivial⟩ rfl (fun _ _ q => by rw [q.2]; rfl) (fun r9 G1 q => ?_)
    obtain ⟨rfl, rfl⟩ := q
    refine hX.run (ft := ftX5) (ct := ctX5) (oc := [(79, oMinI)]) kX5_take_ok ftX5_ok ctX5_ok hoc [15] [] [] 100 ?_
    exact s2 (by omega) (upd mks 1 (nI (gs S V 1))) (fun j i => if j = 1 then gq S V 1 i else q j i) (fun j hj => by
      unfold upd
      by_cases e : j = 1
      · subst e; rw [if_pos rfl]
      · rw [if_neg e]; exact h1 j (by omega)) (fun j i hj hi => by
      try dsimp only
      by_cases e : j = 1
      · rw [if_pos e, e]
      · rw [if_neg e]; exact h2 j i (by omega) hi)
  have s0 : 0 ≤ V.1 → ∀ (mks : Nat → Int32) (q : Nat → Nat → Int), (∀ j, j < 0 → mks j = nI (gs S V j)) → (∀ j i, j < 0 → i < 3 → q j i = gq S V j i) → X 15 [some (.ref 0), some (.ref 21), some (.ref 24), some (.int (nI 0))] [] [.inr (3, [.ref 1, .ref 2, .ref 3, .ref 4, .ref 5, .ref 6, .int (nI V.1)]), .inl (8, .inl (mks)), .inl (8, .inr (.inr (.inr (.inr (gmap))))), .inl (3, .inr (.inr (.inr (.inr (fmap))))), .inl (3, .inr (.inr (.inr (.inr (tmap))))), .inl (3, .inr (.inl (we))), .inl (2, .inr (.inl (pa))), .inl (3, .inr (.inl (fun i => zl (q 0 i)))), .inl (3, .inr (.inl (fun i => zl (q 1 i)))), .inl (3, .inr (.inl (fun i => zl (q 2 i)))), .inl (3, .inr (.inl (fun i => zl (q 3 i)))), .inl (3, .inr (.inl (fun i => zl (q 4 i)))), .inl (3, .inr (.inl (fun i => zl (q 5 i)))), .inl (3, .inr (.inl (fun i => zl (q 6 i)))), .inl (3, .inr (.inl (fun i => zl (q 7 i)))), .inl (3, .inr (.inl (f0))), .inl (3, .inr (.inl (f1))), .inl (3, .inr (.inl (f2))), .inl (3, .inr (.inl (t0))), .inl (3, .inr (.inl (t1))), .inl (3, .inr (.inl (t2))), .inr (5, [.ref 22, .ref 23, .int (nI 60), .int (nI S.1)]), .inl (60, .inl (so)), .inl (540, .inl (ce)), .inr (2, [.ref 25, .int (nI 8), .int (nI V.1)]), .inl (8, .inl (me))] := by
    intro hk mks q h1 h2
    refine hX.run (ft := ftX5) (ct := ctX5) (oc := [(79, oMinI)]) kX5_take_ok ftX5_ok ctX5_ok hoc [15] [] [] 100 ?_
    refine ⟨fun h => ?_, fun h => ?_⟩
    · have hv : V.1 = 0 := by
        have h3 : nI V.1 ≤ nI 0 := h
        rw [nI_leI (by omega) (by omega)] at h3
        omega
      exact fin mks q (fun j hj => h1 j (by omega)) (fun j i hj hi => h2 j i (by omega) hi)
    have hlt : 0 < V.1 := by
      have h3 : ¬ nI V.1 ≤ nI 0 := h
      rw [nI_leI (by omega) (by omega)] at h3
      omega
    have hv := hV.2 0 hlt
    have e1 : (nI (V.2 0)).toInt = (V.2 0 : Int) := nI_toInt (by omega)
    have es : srtI S (nI (V.2 0)).toInt = (gs S V 0 : Int) := by
      unfold srtI
      rw [e1, if_pos ⟨by omega, by omega⟩]
      rfl
    have hw3 : 3 ≤ wd (S.2.1 (V.2 0)) := by unfold wd; split; omega; split <;> omega
    refine hX.callV [24, 25] [.ref 21, .int (nI 0), .ref 1] (k_member l V 8 S.1 (by omega) (by omega) me hV 0 hlt) yX4_member_ok lkX5_48 ivX4_member slX4_member ⟨rfl, rfl, by decide, by decide⟩ (kX5_take_ok.at 31 rfl) rfl rfl (xrs_ok rfl) rfl rfl rfl ⟨rfl, rfl, trivial⟩ rfl (fun _ _ q => by rw [q.2]) (fun r9 G1 q => ?_)
    obtain ⟨rfl, rfl⟩ := q
    refine hX.run (ft := ftX5) (ct := ctX5) (oc := [(79, oMinI)]) kX5_take_ok ftX5_ok ctX5_ok hoc [] [] [] 100 ?_
    refine hX.callV [21, 22, 23] [.int (nI 0), .ref 1] (k_sortOf l S 60 so ce hS (nI (V.2 0))) yX8_sortOf_ok lkX5_52 ivX8_sortOf slX8_sortOf ⟨rfl, rfl, by decide, by decide⟩ (kX5_take_ok.at 34 rfl) rfl rfl (xrs_ok rfl) rfl rfl rfl ⟨rfl, rfl, rfl, trivial⟩ rfl (fun _ _ q => by rw [q.2]) (fun r9 G1 q => ?_)
    obtain ⟨rfl, rfl⟩ := q
    rw [es, zi_nI]
    refine hX.run (ft := ftX5) (ct := ctX5) (oc := [(79, oMinI)]) kX5_take_ok ftX5_ok ctX5_ok hoc [] [] [] 100 ?_
    refine hX.callV [24, 25] [.ref 21] (k_member l V 8 S.1 (by omega) (by omega) me hV 0 hlt) yX4_member_ok lkX5_48 ivX4_member slX4_member ⟨rfl, rfl, by decide, by decide⟩ (kX5_take_ok.at 41 rfl) rfl rfl (xrs_ok rfl) rfl rfl rfl ⟨rfl, rfl, trivial⟩ rfl (fun _ _ q => by rw [q.2]) (fun r9 G1 q => ?_)
    obtain ⟨rfl, rfl⟩ := q
    refine hX.run (ft := ftX5) (ct := ctX5) (oc := [(79, oMinI)]) kX5_take_ok ftX5_ok ctX5_ok hoc [] [] [] 100 ?_
    refine hX.callV [21, 22, 23, 7] [] (k_load l S 60 so ce hS (V.2 0) hv.2 3 hw3 _) yX8_load_ok lkX5_57 ivX8_load slX8_load ⟨rfl, rfl, by decide, by decide⟩ (kX5_take_ok.at 50 rfl) rfl rfl (by decide) rfl rfl rfl ⟨rfl, rfl, rfl, rfl, trivial⟩ rfl (fun _ _ q => by rw [q.2]; rfl) (fun r9 G1 q => ?_)
    obtain ⟨rfl, rfl⟩ := q
    refine hX.run (ft := ftX5) (ct := ctX5) (oc := [(79, oMinI)]) kX5_take_ok ftX5_ok ctX5_ok hoc [15] [] [] 100 ?_
    exact s1 (by omega) (upd mks 0 (nI (gs S V 0))) (fun j i => if j = 0 then gq S V 0 i else q j i) (fun j hj => by
      unfold upd
      by_cases e : j = 0
      · subst e; rw [if_pos rfl]
      · rw [if_neg e]; exact h1 j (by omega)) (fun j i hj hi => by
      try dsimp only
      by_cases e : j = 0
      · rw [if_pos e, e]
      · rw [if_neg e]; exact h2 j i (by omega) hi)
  refine hX.run (ft := ftX5) (ct := ctX5) (oc := [(79, oMinI)]) kX5_take_ok ftX5_ok ctX5_ok hoc [] [] [] 100 ?_
  refine hX.callV [24, 25] [.ref 0] (k_lnSize l (nI V.1) 8 me) yX4_size_ok lkX5_33 ivX4_size slX4_size ⟨rfl, rfl, by decide, by decide⟩ (kX5_take_ok.at 2 rfl) rfl rfl (xrs_ok rfl) rfl rfl rfl ⟨rfl, rfl, trivial⟩ rfl (fun _ _ q => by rw [q.2]) (fun r9 G1 q => ?_)
  obtain ⟨rfl, rfl⟩ := q
  have em : (if (Int8.ofInt 8).toInt32 < nI V.1 then (Int8.ofInt 8).toInt32 else nI V.1) = nI V.1 := by
    rw [if_neg]
    exact nI_nlt (a := 8) (b := V.1) (by omega) (by omega)
  have st : ∀ w : Int32, w = nI V.1 → X 15 [some (.ref 0), some (.ref 21), some (.ref 24), some (.int (nI 0))] [] [.inr (3, [.ref 1, .ref 2, .ref 3, .ref 4, .ref 5, .ref 6, .int (w)]), .inl (8, .inl (mks)), .inl (8, .inr (.inr (.inr (.inr (gmap))))), .inl (3, .inr (.inr (.inr (.inr (fmap))))), .inl (3, .inr (.inr (.inr (.inr (tmap))))), .inl (3, .inr (.inl (we))), .inl (2, .inr (.inl (pa))), .inl (3, .inr (.inl (fun i => zl (q 0 i)))), .inl (3, .inr (.inl (fun i => zl (q 1 i)))), .inl (3, .inr (.inl (fun i => zl (q 2 i)))), .inl (3, .inr (.inl (fun i => zl (q 3 i)))), .inl (3, .inr (.inl (fun i => zl (q 4 i)))), .inl (3, .inr (.inl (fun i => zl (q 5 i)))), .inl (3, .inr (.inl (fun i => zl (q 6 i)))), .inl (3, .inr (.inl (fun i => zl (q 7 i)))), .inl (3, .inr (.inl (f0))), .inl (3, .inr (.inl (f1))), .inl (3, .inr (.inl (f2))), .inl (3, .inr (.inl (t0))), .inl (3, .inr (.inl (t1))), .inl (3, .inr (.inl (t2))), .inr (5, [.ref 22, .ref 23, .int (nI 60), .int (nI S.1)]), .inl (60, .inl (so)), .inl (540, .inl (ce)), .inr (2, [.ref 25, .int (nI 8), .int (nI V.1)]), .inl (8, .inl (me))] := by
    rintro _ rfl
    exact s0 (by omega) mks q (fun j hj => absurd hj (Nat.not_lt_zero j)) (fun j i hj => absurd hj (Nat.not_lt_zero j))
  refine hX.run (ft := ftX5) (ct := ctX5) (oc := [(79, oMinI)]) kX5_take_ok ftX5_ok ctX5_ok hoc [15] [] [] 100 ?_
  exact st _ em
def toO (M : SM) : SO := (M.1, (fun _ => 3), M.2)
def id9 : Nat → Int := t9 1 0 0 0 1 0 0 0 1
theorem hit3 (tab : Nat → Nat → Int) (w : Nat → Int) : hitO (fun _ => 3) tab 3 9 w = hitM tab w := by
  funext k
  unfold hitO hitM
  rfl
theorem kpM (c : Nat) (M : SM) (w : Nat → Int) : kpO c (toO M) 3 9 w = (match fnd (hitM M.2 w) M.1 0 with
    | some k => ((k : Int), toO M)
    | none => if c ≤ M.1 then (-4, toO M) else ((M.1 : Int), toO (M.1 + 1, fun k => if k = M.1 then w else M.2 k))) := by
  unfold kpO
  rw [show (toO M).2.1 = fun _ => 3 from rfl, show (toO M).2.2 = M.2 from rfl, show (toO M).1 = M.1 from rfl, hit3]
  cases fnd (hitM M.2 w) M.1 0 with
  | some k => rfl
  | none =>
    dsimp only
    split
    · rfl
    · unfold toO
      simp only [ite_self]
theorem fnM (M : SM) (w : Nat → Int) : fnO (toO M) 3 9 w = (match fnd (hitM M.2 w) M.1 0 with | some k => (k : Int) | none => -1) := by
  unfold fnO
  rw [show (toO M).2.1 = fun _ => 3 from rfl, show (toO M).2.2 = M.2 from rfl, show (toO M).1 = M.1 from rfl, hit3]
  rfl
theorem RH.like {S T : SO} {so ce : Nat → Int32} (h : RH S so ce) (h1 : S.1 = T.1) (h2 : ∀ k, k < S.1 → S.2.1 k = T.2.1 k ∧ ∀ i, i < wd (S.2.1 k) → S.2.2 k i = T.2.2 k i) : RH T so ce := by
  refine ⟨by rw [← h1]; exact h.1, fun k hk => ?_, fun k i hk hi => ?_⟩
  · rw [← h1] at hk
    rw [← (h2 k hk).1]
    exact h.2.1 k hk
  · rw [← h1] at hk
    rw [← (h2 k hk).1] at hi
    rw [← (h2 k hk).2 i hi]
    exact h.2.2 k i hk hi
set_option maxHeartbeats 4000000 in
set_option maxRecDepth 100000 in
theorem k_restart (l : Launch) (n : Int32) (so ce : Nat → Int32) (be af bo : Nat → Int64) (E : Nat → Nat → Int) (hE : ∀ i, i < 9 → E 0 i = id9 i) : xM l yX0_restart cX0_restart 1 (none : Option FieldType) rX0_restart [.ref 0] [.inr (0, [.ref 1, .ref 4, .ref 5, .ref 6]), .inr (5, [.ref 2, .ref 3, .int (nI 48), .int (n)]), .inl (60, .inl (so)), .inl (540, .inl (ce)), .inl (9, .inr (.inl (be))), .inl (9, .inr (.inl (af))), .inl (9, .inr (.inl (bo)))] (fun r G => ∃ so' ce' bo', r = none ∧ RH (toO (1, E)) so' ce' ∧ G = [.inr (0, [.ref 1, .ref 4, .ref 5, .ref 6]), .inr (5, [.ref 2, .ref 3, .int (nI 48), .int (nI 1)]), .inl (60, .inl (so')), .inl (540, .inl (ce')), .inl (9, .inr (.inl (be))), .inl (9, .inr (.inl (af))), .inl (9, .inr (.inl (bo')))]) := by
  refine xM.of (by decide) (Nat.le_of_ble_eq_true rfl) (fun X hX => ?_)
  refine hX.run (ft := ftX0) (ct := ctX0) (oc := []) kX0_restart_ok ftX0_ok ctX0_ok xnoc [] [] [] 100 ?_
  refine hX.callV [1, 2, 3] [] (k_shClear l n 48 so ce) yX8_clear_ok lkX0_69 ivX8_clear slX8_clear ⟨rfl, rfl, by decide, by decide⟩ (kX0_restart_ok.at 4 rfl) rfl rfl (by decide) rfl rfl rfl ⟨rfl, rfl, rfl, trivial⟩ rfl (fun _ _ q => by rw [q.2]; rfl) (fun r9 G1 q => ?_)
  obtain ⟨rfl, rfl⟩ := q
  refine hX.run (ft := ftX0) (ct := ctX0) (oc := []) kX0_restart_ok ftX0_ok ctX0_ok xnoc [] [] [] 100 ?_
  refine hX.callS [6] [] (k_putRow l _ 0 (by omega) _ _ _) yX9_putRow_ok lkX0_72 ssX9_putRow ⟨rfl, rfl, by decide, by decide⟩ (kX0_restart_ok.at 15 rfl) rfl rfl (by decide) ⟨rfl, trivial⟩ rfl (fun _ _ q => by rw [q.2]; rfl) (fun r9 G1 q => ?_)
  obtain ⟨rfl, rfl⟩ := q
  refine hX.run (ft := ftX0) (ct := ctX0) (oc := []) kX0_restart_ok ftX0_ok ctX0_ok xnoc [] [] [] 100 ?_
  refine hX.callS [6] [] (k_putRow l _ 1 (by omega) _ _ _) yX9_putRow_ok lkX0_72 ssX9_putRow ⟨rfl, rfl, by decide, by decide⟩ (kX0_restart_ok.at 26 rfl) rfl rfl (by decide) ⟨rfl, trivial⟩ rfl (fun _ _ q => by rw [q.2]; rfl) (fun r9 G1 q => ?_)
  obtain ⟨rfl, rfl⟩ := q
  refine hX.run (ft := ftX0) (ct := ctX0) (oc := []) kX0_restart_ok ftX0_ok ctX0_ok xnoc [] [] [] 100 ?_
  refine hX.callS [6] [] (k_putRow l _ 2 (by omega) _ _ _) yX9_putRow_ok lkX0_72 ssX9_putRow ⟨rfl, rfl, by decide, by decide⟩ (kX0_restart_ok.at 37 rfl) rfl rfl (by decide) ⟨rfl, trivial⟩ rfl (fun _ _ q => by rw [q.2]; rfl) (fun r9 G1 q => ?_)
  obtain ⟨rfl, rfl⟩ := q
  refine hX.alike (G2 := [.inr (0, [.ref 1, .ref 4, .ref 5, .ref 6]), .inr (5, [.ref 2, .ref 3, .int (nI 48), .int (nI 0)]), .inl (60, .inl (so)), .inl (540, .inl (ce)), .inl (9, .inr (.inl (be))), .inl (9, .inr (.inl (af))), .inl (9, .inr (.inl (fun i => zl (id9 i))))]) ?_ ⟨xsame_rf _, xsame_rf _, xsame_rf _, xsame_rf _, xsame_rf _, xsame_rf _, ⟨rfl, fun i hi => ?_⟩, trivial⟩
  rotate_left
  · unfold pr3
    rcases (show i = 0 ∨ i = 1 ∨ i = 2 ∨ i = 3 ∨ i = 4 ∨ i = 5 ∨ i = 6 ∨ i = 7 ∨ i = 8 by omega) with rfl | rfl | rfl | rfl | rfl | rfl | rfl | rfl | rfl <;> rfl
  have hid : ∀ i, i < 9 → -500 ≤ id9 i ∧ id9 i ≤ 500 := fun i hi => by
    rcases (show i = 0 ∨ i = 1 ∨ i = 2 ∨ i = 3 ∨ i = 4 ∨ i = 5 ∨ i = 6 ∨ i = 7 ∨ i = 8 by omega) with rfl | rfl | rfl | rfl | rfl | rfl | rfl | rfl | rfl <;> decide
  have hR : RH ((0 : Nat), (fun _ : Nat => (3 : Nat)), E) so ce := ⟨by show 0 ≤ 60; omega, fun k hk => absurd hk (Nat.not_lt_zero k), fun k i hk => absurd hk (Nat.not_lt_zero k)⟩
  refine hX.run (ft := ftX0) (ct := ctX0) (oc := []) kX0_restart_ok ftX0_ok ctX0_ok xnoc [] [] [] 100 ?_
  refine hX.callV [1, 2, 3, 6] [] (k_keep l (0, (fun _ => 3), E) 48 so ce (by omega) hR (by show 0 ≤ 48; omega) 3 (by omega) 9 rfl id9 hid) yX8_keep_ok lkX0_66 ivX8_keep slX8_keep ⟨rfl, rfl, by decide, by decide⟩ (kX0_restart_ok.at 49 rfl) rfl rfl (by decide) rfl rfl rfl ⟨rfl, rfl, rfl, rfl, trivial⟩ rfl (fun _ _ q => by obtain ⟨_, _, -, -, rfl⟩ := q; rfl) (fun r9 G1 q => ?_)
  obtain ⟨so2, ce2, rfl, q2, rfl⟩ := q
  have ek : kpO 48 (0, (fun _ => 3), E) 3 9 id9 = (0, toO (1, fun k => if k = 0 then id9 else E k)) := kpM 48 (0, E) id9
  rw [ek] at q2 ⊢
  refine hX.run (ft := ftX0) (ct := ctX0) (oc := []) kX0_restart_ok ftX0_ok ctX0_ok xnoc [] [] [] 100 ?_
  refine ⟨so2, ce2, _, rfl, q2.like rfl (fun k hk => ⟨rfl, fun i hi => ?_⟩), rfl⟩
  have hk0 : k = 0 := by
    have : k < 1 := hk
    omega
  subst hk0
  show (if 0 = 0 then id9 else E 0) i = E 0 i
  rw [if_pos rfl, hE i hi]
set_option maxHeartbeats 4000000 in
set_option maxRecDepth 100000 in
theorem toO_bd {M : SM} {so ce : Nat → Int32} (h : RH (toO M) so ce) {k i : Nat} (hk : k < M.1) (hi : i < 9) : ab (M.2 k i) 500 := (h.2.2 k i hk hi).2
set_option maxHeartbeats 4000000 in
set_option maxRecDepth 100000 in
theorem k_grow (l : Launch) (n : Int32) (so ce mso mce me : Nat → Int32) (be af bo : Nat → Int64) (E : Nat → Nat → Int) (hE : ∀ i, i < 9 → E 0 i = id9 i) (M : SM) (hM : RH (toO M) mso mce) (hgood : goodM M) (V : SV) (hV : RV 4 M.1 V me) (mo : Nat) (hmo : 1 ≤ mo ∧ mo ≤ 48) : xM l yX0_grow cX0_grow 6 (some .int) rX0_grow [.ref 0, .ref 7, .ref 10, .int (nI mo)] [.inr (0, [.ref 1, .ref 4, .ref 5, .ref 6]), .inr (5, [.ref 2, .ref 3, .int (nI 48), .int (n)]), .inl (60, .inl (so)), .inl (540, .inl (ce)), .inl (9, .inr (.inl (be))), .inl (9, .inr (.inl (af))), .inl (9, .inr (.inl (bo))), .inr (5, [.ref 8, .ref 9, .int (nI 40), .int (nI M.1)]), .inl (60, .inl (mso)), .inl (540, .inl (mce)), .inr (2, [.ref 11, .int (nI 4), .int (nI V.1)]), .inl (8, .inl (me))] (fun r G => ∃ so' ce' be' af' bo', r = some (.int (zi (gr2 M V.2 mo V.1 49 0 (1, E)).1)) ∧ RH (toO (gr2 M V.2 mo V.1 49 0 (1, E)).2) so' ce' ∧ 1 ≤ (gr2 M V.2 mo V.1 49 0 (1, E)).2.1 ∧ G = [.inr (0, [.ref 1, .ref 4, .ref 5, .ref 6]), .inr (5, [.ref 2, .ref 3, .int (nI 48), .int (nI (gr2 M V.2 mo V.1 49 0 (1, E)).2.1)]), .inl (60, .inl (so')), .inl (540, .inl (ce')), .inl (9, .inr (.inl (be'))), .inl (9, .inr (.inl (af'))), .inl (9, .inr (.inl (bo'))), .inr (5, [.ref 8, .ref 9, .int (nI 40), .int (nI M.1)]), .inl (60, .inl (mso)), .inl (540, .inl (mce)), .inr (2, [.ref 11, .int (nI 4), .int (nI V.1)]), .inl (8, .inl (me))]) := by
  refine xM.of (by decide) (Nat.le_of_ble_eq_true rfl) (fun X hX => ?_)
  have hM60 : M.1 ≤ 60 := hM.1
  have hV4 := hV.1
  have fin : ∀ (r : Int) (P : SM) (so ce : Nat → Int32) (be af bo : Nat → Int64), gr2 M V.2 mo V.1 49 0 (1, E) = (r, P) → RH (toO P) so ce → 1 ≤ P.1 → ∃ so' ce' be' af' bo', some (Value.int (zi r)) = some (.int (zi (gr2 M V.2 mo V.1 49 0 (1, E)).1)) ∧ RH (toO (gr2 M V.2 mo V.1 49 0 (1, E)).2) so' ce' ∧ 1 ≤ (gr2 M V.2 mo V.1 49 0 (1, E)).2.1 ∧ ([.inr (0, [.ref 1, .ref 4, .ref 5, .ref 6]), .inr (5, [.ref 2, .ref 3, .int (nI 48), .int (nI P.1)]), .inl (60, .inl (so)), .inl (540, .inl (ce)), .inl (9, .inr (.inl (be))), .inl (9, .inr (.inl (af))), .inl (9, .inr (.inl (bo))), .inr (5, [.ref 8, .ref 9, .int (nI 40), .int (nI M.1)]), .inl (60, .inl (mso)), .inl (540, .inl (mce)), .inr (2, [.ref 11, .int (nI 4), .int (nI V.1)]), .inl (8, .inl (me))] : List xE) = [.inr (0, [.ref 1, .ref 4, .ref 5, .ref 6]), .inr (5, [.ref 2, .ref 3, .int (nI 48), .int (nI (gr2 M V.2 mo V.1 49 0 (1, E)).2.1)]), .inl (60, .inl (so')), .inl (540, .inl (ce')), .inl (9, .inr (.inl (be'))), .inl (9, .inr (.inl (af'))), .inl (9, .inr (.inl (bo'))), .inr (5, [.ref 8, .ref 9, .int (nI 40), .int (nI M.1)]), .inl (60, .inl (mso)), .inl (540, .inl (mce)), .inr (2, [.ref 11, .int (nI 4), .int (nI V.1)]), .inl (8, .inl (me))] := by
    intro r P so ce be af bo h hP h1
    rw [h]
    exact ⟨so, ce, be, af, bo, rfl, hP, h1, rfl⟩
  have main : ∀ (f k : Nat) (P : SM) (so ce : Nat → Int32) (be af bo : Nat → Int64), f + k = 49 → k ≤ P.1 → 1 ≤ P.1 → P.1 ≤ mo → RH (toO P) so ce → goodM P → gr2 M V.2 mo V.1 49 0 (1, E) = gr2 M V.2 mo V.1 f k P → X 7 [some (.ref 0), some (.ref 7), some (.ref 10), some (.int (nI mo)), some (.int (nI k)), none] [] [.inr (0, [.ref 1, .ref 4, .ref 5, .ref 6]), .inr (5, [.ref 2, .ref 3, .int (nI 48), .int (nI P.1)]), .inl (60, .inl (so)), .inl (540, .inl (ce)), .inl (9, .inr (.inl (be))), .inl (9, .inr (.inl (af))), .inl (9, .inr (.inl (bo))), .inr (5, [.ref 8, .ref 9, .int (nI 40), .int (nI M.1)]), .inl (60, .inl (mso)), .inl (540, .inl (mce)), .inr (2, [.ref 11, .int (nI 4), .int (nI V.1)]), .inl (8, .inl (me))] := by
    intro f
    induction f with
    | zero =>
      intro k P so ce be af bo hk hkP h1 hPm hP hg hv
      omega
    | succ f ih =>
      intro k P so ce be af bo hk hkP h1 hPm hP hg hv
      have out : ¬ k < P.1 → X 149 [some (.ref 0), some (.ref 7), some (.ref 10), some (.int (nI mo)), none, none] [] [.inr (0, [.ref 1, .ref 4, .ref 5, .ref 6]), .inr (5, [.ref 2, .ref 3, .int (nI 48), .int (nI P.1)]), .inl (60, .inl (so)), .inl (540, .inl (ce)), .inl (9, .inr (.inl (be))), .inl (9, .inr (.inl (af))), .inl (9, .inr (.inl (bo))), .inr (5, [.ref 8, .ref 9, .int (nI 40), .int (nI M.1)]), .inl (60, .inl (mso)), .inl (540, .inl (mce)), .inr (2, [.ref 11, .int (nI 4), .int (nI V.1)]), .inl (8, .inl (me))] := by
        intro hlt
        have e : gr2 M V.2 mo V.1 (f + 1) k P = ((P.1 : Int), P) := by rw [gr2, if_neg hlt]
        refine hX.run (ft := ftX0) (ct := ctX0) (oc := []) kX0_grow_ok ftX0_ok ctX0_ok xnoc [] [] [] 100 ?_
        refine hX.callV [1, 2, 3] [] (k_shSize l (nI P.1) 48 so ce) yX8_size_ok lkX0_33 ivX8_size slX8_size ⟨rfl, rfl, by decide, by decide⟩ (kX0_grow_ok.at 153 rfl) rfl rfl (by decide) rfl rfl rfl ⟨rfl, rfl, rfl, trivial⟩ rfl (fun _ _ q => by rw [q.2]) (fun r9 G1 q => ?_)
        obtain ⟨rfl, rfl⟩ := q
        refine hX.run (ft := ftX0) (ct := ctX0) (oc := []) kX0_grow_ok ftX0_ok ctX0_ok xnoc [] [] [] 100 ?_
        rw [← zi_nI]
        exact fin _ P so ce be af bo (hv.trans e) hP h1
      refine hX.run (ft := ftX0) (ct := ctX0) (oc := []) kX0_grow_ok ftX0_ok ctX0_ok xnoc [149] [] [] 100 ?_
      refine ⟨fun h => ?_, fun h48 => ?_⟩
      · have h2 : nI 48 ≤ nI k := h
        rw [nI_leI (by omega) (by omega)] at h2
        exact hX.less (out (by omega)) ⟨rfl, rfl, rfl, rfl, trivial⟩
      refine hX.callV [1, 2, 3] [.int (nI k)] (k_shSize l (nI P.1) 48 so ce) yX8_size_ok lkX0_33 ivX8_size slX8_size ⟨rfl, rfl, by decide, by decide⟩ (kX0_grow_ok.at 20 rfl) rfl rfl (xrs_ok rfl) rfl rfl rfl ⟨rfl, rfl, rfl, trivial⟩ rfl (fun _ _ q => by rw [q.2]) (fun r9 G1 q => ?_)
      obtain ⟨rfl, rfl⟩ := q
      refine hX.run (ft := ftX0) (ct := ctX0) (oc := []) kX0_grow_ok ftX0_ok ctX0_ok xnoc [29, 149] [] [] 100 ?_
      refine ⟨fun h => ?_, fun h => ?_⟩
      · rw [nI_leI (by omega) (by omega)] at h
        exact hX.less (out (by omega)) ⟨rfl, rfl, rfl, rfl, trivial⟩
      have hlt : k < P.1 := by
        rw [nI_leI (by omega) (by omega)] at h
        omega
      have inner : ∀ (d s : Nat) (P : SM) (so ce : Nat → Int32) (be af bo : Nat → Int64), d + s = V.1 → k < P.1 → 1 ≤ P.1 → P.1 ≤ mo → RH (toO P) so ce → goodM P → gr2 M V.2 mo V.1 49 0 (1, E) = (match gr1 M V.2 mo k d s P with | (some r, P') => (r, P') | (none, P') => gr2 M V.2 mo V.1 f (k + 1) P') → X 29 [some (.ref 0), some (.ref 7), some (.ref 10), some (.int (nI mo)), some (.int (nI k)), some (.int (nI s))] [] [.inr (0, [.ref 1, .ref 4, .ref 5, .ref 6]), .inr (5, [.ref 2, .ref 3, .int (nI 48), .int (nI P.1)]), .inl (60, .inl (so)), .inl (540, .inl (ce)), .inl (9, .inr (.inl (be))), .inl (9, .inr (.inl (af))), .inl (9, .inr (.inl (bo))), .inr (5, [.ref 8, .ref 9, .int (nI 40), .int (nI M.1)]), .inl (60, .inl (mso)), .inl (540, .inl (mce)), .inr (2, [.ref 11, .int (nI 4), .int (nI V.1)]), .inl (8, .inl (me))] := by
        intro d
        induction d with
        | zero =>
          intro s P so ce be af bo hs hlt h1 hPm hP hg hv
          have := ih (k + 1) P so ce be af bo (by omega) (by omega) h1 hPm hP hg hv
          rw [← nI_1 k] at this
          refine hX.run (ft := ftX0) (ct := ctX0) (oc := []) kX0_grow_ok ftX0_ok ctX0_ok xnoc [] [] [] 100 ?_
          refine hX.callV [10, 11] [.int (nI s)] (k_lnSize l (nI V.1) 4 me) yX4_size_ok lkX0_37 ivX4_size slX4_size ⟨rfl, rfl, by decide, by decide⟩ (kX0_grow_ok.at 32 rfl) rfl rfl (xrs_ok rfl) rfl rfl rfl ⟨rfl, rfl, trivial⟩ rfl (fun _ _ q => by rw [q.2]) (fun r9 G1 q => ?_)
          obtain ⟨rfl, rfl⟩ := q
          refine hX.run (ft := ftX0) (ct := ctX0) (oc := []) kX0_grow_ok ftX0_ok ctX0_ok xnoc [7] [] [] 100 ?_
          refine ⟨fun _ => hX.less this ⟨rfl, rfl, rfl, rfl, rfl, trivial⟩, fun h => absurd (nI_le (by omega) (by omega)) h⟩
        | succ d ih2 =>
          intro s P so ce be af bo hs hlt h1 hPm hP hg hv
          obtain ⟨hsd, hsm⟩ := hV.2 s (by omega)
          have hP8 := hP.1
          refine hX.run (ft := ftX0) (ct := ctX0) (oc := []) kX0_grow_ok ftX0_ok ctX0_ok xnoc [] [] [] 100 ?_
          refine hX.callV [10, 11] [.int (nI s)] (k_lnSize l (nI V.1) 4 me) yX4_size_ok lkX0_37 ivX4_size slX4_size ⟨rfl, rfl, by decide, by decide⟩ (kX0_grow_ok.at 32 rfl) rfl rfl (xrs_ok rfl) rfl rfl rfl ⟨rfl, rfl, trivial⟩ rfl (fun _ _ q => by rw [q.2]) (fun r9 G1 q => ?_)
          obtain ⟨rfl, rfl⟩ := q
          refine hX.run (ft := ftX0) (ct := ctX0) (oc := []) kX0_grow_ok ftX0_ok ctX0_ok xnoc [] [] [] 100 ?_
          refine ⟨fun h => absurd h (nI_ge (by omega) (by omega)), fun _ => ?_⟩
          refine hX.callV [1, 2, 3, 4] [] (k_load l (toO P) 48 so ce hP k hlt 9 (Nat.le_refl 9) be) yX8_load_ok lkX0_40 ivX8_load slX8_load ⟨rfl, rfl, by decide, by decide⟩ (kX0_grow_ok.at 48 rfl) rfl rfl (by decide) rfl rfl rfl ⟨rfl, rfl, rfl, rfl, trivial⟩ rfl (fun _ _ q => by rw [q.2]; rfl) (fun r9 G1 q => ?_)
          obtain ⟨rfl, rfl⟩ := q
          refine hX.run (ft := ftX0) (ct := ctX0) (oc := []) kX0_grow_ok ftX0_ok ctX0_ok xnoc [] [] [] 100 ?_
          refine hX.callV [10, 11] [.ref 7] (k_member l V 4 M.1 (by omega) (by omega) me hV s (by omega)) yX4_member_ok lkX0_44 ivX4_member slX4_member ⟨rfl, rfl, by decide, by decide⟩ (kX0_grow_ok.at 55 rfl) rfl rfl (xrs_ok rfl) rfl rfl rfl ⟨rfl, rfl, trivial⟩ rfl (fun _ _ q => by rw [q.2]) (fun r9 G1 q => ?_)
          obtain ⟨rfl, rfl⟩ := q
          refine hX.run (ft := ftX0) (ct := ctX0) (oc := []) kX0_grow_ok ftX0_ok ctX0_ok xnoc [] [] [] 100 ?_
          refine hX.callV [7, 8, 9, 5] [] (k_load l (toO M) 40 mso mce hM (V.2 s) hsm 9 (Nat.le_refl 9) af) yX8_load_ok lkX0_40 ivX8_load slX8_load ⟨rfl, rfl, by decide, by decide⟩ (kX0_grow_ok.at 62 rfl) rfl rfl (by decide) rfl rfl rfl ⟨rfl, rfl, rfl, rfl, trivial⟩ rfl (fun _ _ q => by rw [q.2]; rfl) (fun r9 G1 q => ?_)
          obtain ⟨rfl, rfl⟩ := q
          have hx : ∀ i, i < 9 → ab (M.2 (V.2 s) i) 500 := fun i hi => toO_bd hM hsm hi
          have hy : ∀ i, i < 9 → ab (P.2 k i) 500 := fun i hi => toO_bd hP hlt hi
          have hd2 : det9 (mul9 (M.2 (V.2 s)) (P.2 k)) ≠ 0 := by
            rw [tdet]
            exact Int.mul_ne_zero (hgood _ hsm) (hg k hlt)
          refine hX.run (ft := ftX0) (ct := ctX0) (oc := []) kX0_grow_ok ftX0_ok ctX0_ok xnoc [] [] [] 100 ?_
          refine hX.callS [5, 4, 6] [] (k_product l (M.2 (V.2 s)) (P.2 k) bo) yX9_product_ok lkX0_48 ssX9_product ⟨rfl, rfl, by decide, by decide⟩ (kX0_grow_ok.at 77 rfl) rfl rfl (by decide) ⟨rfl, rfl, rfl, trivial⟩ rfl (fun _ _ q => by rw [q.2]; rfl) (fun r9 G1 q => ?_)
          obtain ⟨rfl, rfl⟩ := q
          refine hX.run (ft := ftX0) (ct := ctX0) (oc := []) kX0_grow_ok ftX0_ok ctX0_ok xnoc [] [] [] 100 ?_
          refine hX.callS [6] [] (k_reduce l 9 (by omega) 500 (by exact ⟨by omega, by omega⟩) (mul9 (M.2 (V.2 s)) (P.2 k)) (fun i hi => ab_jr (mul9_bd hx hy i hi) (by decide)) (det_ne hd2)) yX3_reduce_ok lkX0_56 ssX3_reduce ⟨rfl, rfl, by decide, by decide⟩ (kX0_grow_ok.at 87 rfl) rfl rfl (by decide) ⟨rfl, trivial⟩ rfl (fun _ _ q => by rw [q.2]; rfl) (fun r9 G1 q => ?_)
          obtain ⟨rfl, rfl⟩ := q
          rw [fitM_5]
          refine hX.run (ft := ftX0) (ct := ctX0) (oc := []) kX0_grow_ok ftX0_ok ctX0_ok xnoc [] [] [] 100 ?_
          refine ⟨fun h => ?_, fun h => ?_⟩
          · have hf := bI_0.mp h
            have e : gr1 M V.2 mo k (d + 1) s P = (some (-4), P) := by rw [gr1, if_neg (by rw [hf]; decide)]
            rw [e] at hv
            exact fin (-4) P so ce _ _ _ hv hP h1
          have hf : fit (mul9 (M.2 (V.2 s)) (P.2 k)) 9 9 = true := bI_t h
          refine hX.alike (G2 := [.inr (0, [.ref 1, .ref 4, .ref 5, .ref 6]), .inr (5, [.ref 2, .ref 3, .int (nI 48), .int (nI P.1)]), .inl (60, .inl (so)), .inl (540, .inl (ce)), .inl (9, .inr (.inl (fun i => zl (P.2 k i)))), .inl (9, .inr (.inl (fun i => zl (M.2 (V.2 s) i)))), .inl (9, .inr (.inl (fun i => zl (lrow (mul9 (M.2 (V.2 s)) (P.2 k)) 9 i)))), .inr (5, [.ref 8, .ref 9, .int (nI 40), .int (nI M.1)]), .inl (60, .inl (mso)), .inl (540, .inl (mce)), .inr (2, [.ref 11, .int (nI 4), .int (nI V.1)]), .inl (8, .inl (me))]) ?_ ⟨xsame_rf _, xsame_rf _, xsame_rf _, xsame_rf _, xsame_rf _, xsame_rf _, ⟨rfl, fun i hi => ?_⟩, xsame_rf _, xsame_rf _, xsame_rf _, xsame_rf _, xsame_rf _, trivial⟩
          rotate_left
          · show zl _ = zl _
            rw [lrow_lt hi]
          have hlb := lrow_bd hf
          have hor := fndP_or P (lrow (mul9 (M.2 (V.2 s)) (P.2 k)) 9)
          refine hX.run (ft := ftX0) (ct := ctX0) (oc := []) kX0_grow_ok ftX0_ok ctX0_ok xnoc [] [] [] 100 ?_
          refine hX.callV [1, 2, 3, 6] [] (k_find l (toO P) 48 so ce hP 3 (by omega) 9 rfl (lrow (mul9 (M.2 (V.2 s)) (P.2 k)) 9) (fun i hi => ab_jr (hlb i hi) (by decide))) yX8_find_ok lkX0_62 ivX8_find slX8_find ⟨rfl, rfl, by decide, by decide⟩ (kX0_grow_ok.at 105 rfl) rfl rfl (by decide) rfl rfl rfl ⟨rfl, rfl, rfl, rfl, trivial⟩ rfl (fun _ _ q => by rw [q.2]) (fun r9 G1 q => ?_)
          obtain ⟨rfl, rfl⟩ := q
          have efn : (0 : Int32) ≤ zi (fnO (toO P) 3 9 (lrow (mul9 (M.2 (V.2 s)) (P.2 k)) 9)) ↔ 0 ≤ fndP P (lrow (mul9 (M.2 (V.2 s)) (P.2 k)) 9) := by
            have h3 : (0 : Int32).toInt = 0 := rfl
            have hor2 := fnO_or (toO P) 3 9 (lrow (mul9 (M.2 (V.2 s)) (P.2 k)) 9)
            have hP1 : (toO P).1 = P.1 := rfl
            rw [Int32.le_iff_toInt_le, h3, zi_to (by omega), fnM]
            unfold fndP
            cases fnd (hitM P.2 (lrow (mul9 (M.2 (V.2 s)) (P.2 k)) 9)) P.1 0 with
            | none => dsimp only; omega
            | some j => exact Iff.rfl
          have add : ∀ P2 : SM, (kpO 48 (toO P) 3 9 (lrow (mul9 (M.2 (V.2 s)) (P.2 k)) 9)).2 = toO P2 → k < P2.1 → 1 ≤ P2.1 → P2.1 ≤ mo → goodM P2 → gr2 M V.2 mo V.1 49 0 (1, E) = (match gr1 M V.2 mo k d (s + 1) P2 with | (some r, P') => (r, P') | (none, P') => gr2 M V.2 mo V.1 f (k + 1) P') → X 124 [some (.ref 0), some (.ref 7), some (.ref 10), some (.int (nI mo)), some (.int (nI k)), some (.int (nI s))] [] [.inr (0, [.ref 1, .ref 4, .ref 5, .ref 6]), .inr (5, [.ref 2, .ref 3, .int (nI 48), .int (nI P.1)]), .inl (60, .inl (so)), .inl (540, .inl (ce)), .inl (9, .inr (.inl (fun i => zl (P.2 k i)))), .inl (9, .inr (.inl (fun i => zl (M.2 (V.2 s) i)))), .inl (9, .inr (.inl (fun i => zl (lrow (mul9 (M.2 (V.2 s)) (P.2 k)) 9 i)))), .inr (5, [.ref 8, .ref 9, .int (nI 40), .int (nI M.1)]), .inl (60, .inl (mso)), .inl (540, .inl (mce)), .inr (2, [.ref 11, .int (nI 4), .int (nI V.1)]), .inl (8, .inl (me))] := by
            intro P2 e2 g1 g2 g3 g4 g5
            refine hX.run (ft := ftX0) (ct := ctX0) (oc := []) kX0_grow_ok ftX0_ok ctX0_ok xnoc [] [] [] 100 ?_
            refine hX.callV [1, 2, 3, 6] [] (k_keep l (toO P) 48 so ce (by omega) hP (by show P.1 ≤ 48; omega) 3 (by omega) 9 rfl (lrow (mul9 (M.2 (V.2 s)) (P.2 k)) 9) hlb) yX8_keep_ok lkX0_66 ivX8_keep slX8_keep ⟨rfl, rfl, by decide, by decide⟩ (kX0_grow_ok.at 133 rfl) rfl rfl (by decide) rfl rfl rfl ⟨rfl, rfl, rfl, rfl, trivial⟩ rfl (fun _ _ q => by obtain ⟨_, _, -, -, rfl⟩ := q; rfl) (fun r9 G1 q => ?_)
            obtain ⟨so2, ce2, rfl, q2, rfl⟩ := q
            rw [e2] at q2 ⊢
            have := ih2 (s + 1) P2 so2 ce2 (fun i => zl (P.2 k i)) (fun i => zl (M.2 (V.2 s) i)) (fun i => zl (lrow (mul9 (M.2 (V.2 s)) (P.2 k)) 9 i)) (by omega) g1 g2 g3 q2 g4 g5
            rw [← nI_1 s] at this
            refine hX.run (ft := ftX0) (ct := ctX0) (oc := []) kX0_grow_ok ftX0_ok ctX0_ok xnoc [29] [] [] 100 ?_
            exact this
          have ekp := kpM 48 P (lrow (mul9 (M.2 (V.2 s)) (P.2 k)) 9)
          refine hX.run (ft := ftX0) (ct := ctX0) (oc := []) kX0_grow_ok ftX0_ok ctX0_ok xnoc [124] [] [] 100 ?_
          refine ⟨fun h => ?_, fun h => ?_⟩
          · have h0 := efn.mp h
            have e : gr1 M V.2 mo k (d + 1) s P = gr1 M V.2 mo k d (s + 1) P := by rw [gr1, if_pos hf, if_pos h0]
            rw [e] at hv
            refine add P ?_ hlt h1 hPm hg hv
            rw [ekp]
            unfold fndP at h0
            cases hh : fnd (hitM P.2 (lrow (mul9 (M.2 (V.2 s)) (P.2 k)) 9)) P.1 0 with
            | none => rw [hh] at h0; exact absurd h0 (by decide)
            | some j => rfl
          have h0 : ¬ 0 ≤ fndP P (lrow (mul9 (M.2 (V.2 s)) (P.2 k)) 9) := fun q => h (efn.mpr q)
          have hnone : fnd (hitM P.2 (lrow (mul9 (M.2 (V.2 s)) (P.2 k)) 9)) P.1 0 = none := by
            unfold fndP at h0
            cases hh : fnd (hitM P.2 (lrow (mul9 (M.2 (V.2 s)) (P.2 k)) 9)) P.1 0 with
            | none => rfl
            | some j => rw [hh] at h0; dsimp only at h0; omega
          refine hX.callV [1, 2, 3] [] (k_shSize l (nI P.1) 48 so ce) yX8_size_ok lkX0_33 ivX8_size slX8_size ⟨rfl, rfl, by decide, by decide⟩ (kX0_grow_ok.at 115 rfl) rfl rfl (by decide) rfl rfl rfl ⟨rfl, rfl, rfl, trivial⟩ rfl (fun _ _ q => by rw [q.2]) (fun r9 G1 q => ?_)
          obtain ⟨rfl, rfl⟩ := q
          refine hX.run (ft := ftX0) (ct := ctX0) (oc := []) kX0_grow_ok ftX0_ok ctX0_ok xnoc [124] [] [] 100 ?_
          refine ⟨fun h4 => ?_, fun h4 => ?_⟩
          rotate_left
          · have h5 : P.1 = mo := by
              rw [nI_ltI (by omega) (by omega)] at h4
              omega
            have e : gr1 M V.2 mo k (d + 1) s P = (some 0, P) := by rw [gr1, if_pos hf, if_neg h0, if_pos h5]
            rw [e] at hv
            exact fin 0 P so ce _ _ _ hv hP h1
          have h5 : P.1 < mo := by rwa [nI_ltI (by omega) (by omega)] at h4
          have e : gr1 M V.2 mo k (d + 1) s P = gr1 M V.2 mo k d (s + 1) (P.1 + 1, fun j => if j = P.1 then lrow (mul9 (M.2 (V.2 s)) (P.2 k)) 9 else P.2 j) := by rw [gr1, if_pos hf, if_neg h0, if_neg (by omega)]
          rw [e] at hv
          have hg2 : goodM (P.1 + 1, fun j => if j = P.1 then lrow (mul9 (M.2 (V.2 s)) (P.2 k)) 9 else P.2 j) := by
            intro j hj
            dsimp only at hj ⊢
            by_cases ej : j = P.1
            · rw [if_pos ej]; exact lrow_det hd2
            · rw [if_neg ej]; exact hg j (by omega)
          refine add (P.1 + 1, fun j => if j = P.1 then lrow (mul9 (M.2 (V.2 s)) (P.2 k)) 9 else P.2 j) ?_ (by show k < P.1 + 1; omega) (by show 1 ≤ P.1 + 1; omega) (by show P.1 + 1 ≤ mo; omega) hg2 hv
          rw [ekp, hnone]
          dsimp only
          rw [if_neg (by omega)]
      refine hX.less (inner V.1 0 P so ce be af bo (by omega) hlt h1 hPm hP hg ?_) ⟨rfl, rfl, rfl, rfl, rfl, rfl, trivial⟩
      rw [hv, gr2, if_pos hlt]
      rfl
  have hg1 : goodM (1, E) := by
    intro j hj
    have hj0 : j = 0 := by
      have : j < 1 := hj
      omega
    subst hj0
    show det9 (E 0) ≠ 0
    rw [det9_congr hE]
    decide
  refine hX.run (ft := ftX0) (ct := ctX0) (oc := []) kX0_grow_ok ftX0_ok ctX0_ok xnoc [] [] [] 100 ?_
  refine hX.callV [0, 1, 2, 3, 4, 5, 6] [] (k_restart l n so ce be af bo E hE) yX0_restart_ok lkX0_30 ivX0_restart slX0_restart ⟨rfl, rfl, by decide, by decide⟩ (kX0_grow_ok.at 1 rfl) rfl rfl (by decide) rfl rfl rfl ⟨rfl, rfl, rfl, rfl, rfl, rfl, rfl, trivial⟩ rfl (fun _ _ q => by obtain ⟨_, _, _, -, -, rfl⟩ := q; rfl) (fun r9 G1 q => ?_)
  obtain ⟨so2, ce2, bo2, rfl, q2, rfl⟩ := q
  refine hX.run (ft := ftX0) (ct := ctX0) (oc := []) kX0_grow_ok ftX0_ok ctX0_ok xnoc [7] [] [] 100 ?_
  exact main 49 0 (1, E) so2 ce2 be af bo2 (by omega) (by show 0 ≤ 1; omega) (by show 1 ≤ 1; omega) (by show 1 ≤ mo; omega) q2 hg1 rfl
