/-! the class: the maker builds -/
theorem near1 {n : Nat} {ss : Nat → Nat} {q : Nat → Nat → Int} {m : Nat} (h : cNear n ss q m = true) : n = m ∧ (∀ k, k < m → ss k = 0) ∧ ∀ k, k < m → q k 2 ≠ 0 := by
  unfold cNear cAll at h
  simp only [Bool.and_eq_true, decide_eq_true_eq] at h
  obtain ⟨h1, h2, h3⟩ := h
  subst h3
  refine ⟨rfl, fun k hk => ?_, fun k hk => ?_⟩
  · simpa using alB_all h2 k hk
  · simpa using alB_all h1 k hk
theorem all1 {n : Nat} {ss : Nat → Nat} {s m : Nat} (h : cAll n ss s m = true) : n = m ∧ ∀ k, k < m → ss k = s := by
  unfold cAll at h
  simp only [Bool.and_eq_true, decide_eq_true_eq] at h
  obtain ⟨h2, h3⟩ := h
  subst h3
  exact ⟨rfl, fun k hk => by simpa using alB_all h2 k hk⟩
theorem nb0 {P : Prop} [Decidable P] (h : (!decide P) = false) : P := by simpa using h
theorem nb1 {P : Prop} [Decidable P] (h : (!decide P) = true) : ¬ P := by simpa using h
theorem zl_pair {a b : Int} (h : a = b) : zl a = zl b := by rw [h]
set_option maxHeartbeats 4000000 in
set_option maxRecDepth 100000 in
theorem k_bShift (l : Launch) (n : Nat) (mks : Nat → Int32) (q : Nat → Nat → Int) (f0 f1 f2 t0 t1 t2 we pa out : Nat → Int64) (ss : Nat → Nat) (hr : MR n ss mks q) : xM l yX5_buildShift cX5_buildShift 3 (some .int) rX5_buildShift [.ref 0, .ref 21] [.inr (3, [.ref 1, .ref 2, .ref 3, .ref 4, .ref 5, .ref 6, .int (nI n)]), .inl (8, .inl (mks)), .inl (8, .inr (.inr (.inr (.inr (gmap))))), .inl (3, .inr (.inr (.inr (.inr (fmap))))), .inl (3, .inr (.inr (.inr (.inr (tmap))))), .inl (3, .inr (.inl (we))), .inl (2, .inr (.inl (pa))), .inl (3, .inr (.inl (fun i => zl (q 0 i)))), .inl (3, .inr (.inl (fun i => zl (q 1 i)))), .inl (3, .inr (.inl (fun i => zl (q 2 i)))), .inl (3, .inr (.inl (fun i => zl (q 3 i)))), .inl (3, .inr (.inl (fun i => zl (q 4 i)))), .inl (3, .inr (.inl (fun i => zl (q 5 i)))), .inl (3, .inr (.inl (fun i => zl (q 6 i)))), .inl (3, .inr (.inl (fun i => zl (q 7 i)))), .inl (3, .inr (.inl (f0))), .inl (3, .inr (.inl (f1))), .inl (3, .inr (.inl (f2))), .inl (3, .inr (.inl (t0))), .inl (3, .inr (.inl (t1))), .inl (3, .inr (.inl (t2))), .inl (9, .inr (.inl (out)))] (fun r G => ∃ f0' f1' f2' t0' t1' t2' we' pa' out', r = some (.int (zi (if cNear n ss q 1 then 0 else -3))) ∧ ((if cNear n ss q 1 then 0 else -3) = 0 → ∀ i, i < 9 → out' i = zl (simT 0 (q 0) 0 0 i)) ∧ G = [.inr (3, [.ref 1, .ref 2, .ref 3, .ref 4, .ref 5, .ref 6, .int (nI n)]), .inl (8, .inl (mks)), .inl (8, .inr (.inr (.inr (.inr (gmap))))), .inl (3, .inr (.inr (.inr (.inr (fmap))))), .inl (3, .inr (.inr (.inr (.inr (tmap))))), .inl (3, .inr (.inl (we'))), .inl (2, .inr (.inl (pa'))), .inl (3, .inr (.inl (fun i => zl (q 0 i)))), .inl (3, .inr (.inl (fun i => zl (q 1 i)))), .inl (3, .inr (.inl (fun i => zl (q 2 i)))), .inl (3, .inr (.inl (fun i => zl (q 3 i)))), .inl (3, .inr (.inl (fun i => zl (q 4 i)))), .inl (3, .inr (.inl (fun i => zl (q 5 i)))), .inl (3, .inr (.inl (fun i => zl (q 6 i)))), .inl (3, .inr (.inl (fun i => zl (q 7 i)))), .inl (3, .inr (.inl (f0'))), .inl (3, .inr (.inl (f1'))), .inl (3, .inr (.inl (f2'))), .inl (3, .inr (.inl (t0'))), .inl (3, .inr (.inl (t1'))), .inl (3, .inr (.inl (t2'))), .inl (9, .inr (.inl (out')))]) := by
  refine xM.of (by decide) (Nat.le_of_ble_eq_true rfl) (fun X hX => ?_)
  have no : (if cNear n ss q 1 then 0 else -3) = -3 → ∃ f0' f1' f2' t0' t1' t2' we' pa' out', some (Value.int (Int8.ofInt (-3)).toInt32) = some (.int (zi (if cNear n ss q 1 then 0 else -3))) ∧ ((if cNear n ss q 1 then 0 else -3) = 0 → ∀ i, i < 9 → out' i = zl (simT 0 (q 0) 0 0 i)) ∧ ([.inr (3, [.ref 1, .ref 2, .ref 3, .ref 4, .ref 5, .ref 6, .int (nI n)]), .inl (8, .inl (mks)), .inl (8, .inr (.inr (.inr (.inr (gmap))))), .inl (3, .inr (.inr (.inr (.inr (fmap))))), .inl (3, .inr (.inr (.inr (.inr (tmap))))), .inl (3, .inr (.inl (we))), .inl (2, .inr (.inl (pa))), .inl (3, .inr (.inl (fun i => zl (q 0 i)))), .inl (3, .inr (.inl (fun i => zl (q 1 i)))), .inl (3, .inr (.inl (fun i => zl (q 2 i)))), .inl (3, .inr (.inl (fun i => zl (q 3 i)))), .inl (3, .inr (.inl (fun i => zl (q 4 i)))), .inl (3, .inr (.inl (fun i => zl (q 5 i)))), .inl (3, .inr (.inl (fun i => zl (q 6 i)))), .inl (3, .inr (.inl (fun i => zl (q 7 i)))), .inl (3, .inr (.inl (f0))), .inl (3, .inr (.inl (f1))), .inl (3, .inr (.inl (f2))), .inl (3, .inr (.inl (t0))), .inl (3, .inr (.inl (t1))), .inl (3, .inr (.inl (t2))), .inl (9, .inr (.inl (out)))] : List xE) = [.inr (3, [.ref 1, .ref 2, .ref 3, .ref 4, .ref 5, .ref 6, .int (nI n)]), .inl (8, .inl (mks)), .inl (8, .inr (.inr (.inr (.inr (gmap))))), .inl (3, .inr (.inr (.inr (.inr (fmap))))), .inl (3, .inr (.inr (.inr (.inr (tmap))))), .inl (3, .inr (.inl (we'))), .inl (2, .inr (.inl (pa'))), .inl (3, .inr (.inl (fun i => zl (q 0 i)))), .inl (3, .inr (.inl (fun i => zl (q 1 i)))), .inl (3, .inr (.inl (fun i => zl (q 2 i)))), .inl (3, .inr (.inl (fun i => zl (q 3 i)))), .inl (3, .inr (.inl (fun i => zl (q 4 i)))), .inl (3, .inr (.inl (fun i => zl (q 5 i)))), .inl (3, .inr (.inl (fun i => zl (q 6 i)))), .inl (3, .inr (.inl (fun i => zl (q 7 i)))), .inl (3, .inr (.inl (f0'))), .inl (3, .inr (.inl (f1'))), .inl (3, .inr (.inl (f2'))), .inl (3, .inr (.inl (t0'))), .inl (3, .inr (.inl (t1'))), .inl (3, .inr (.inl (t2'))), .inl (9, .inr (.inl (out')))] := by
    intro h
    rw [h]
    exact ⟨f0, f1, f2, t0, t1, t2, we, pa, out, rfl, fun q => absurd q (by decide), rfl⟩
  refine hX.run (ft := ftX5) (ct := ctX5) (oc := []) kX5_buildShift_ok ftX5_ok ctX5_ok xnoc [] [] [] 120 ?_
  refine hX.callV0 (rest := []) (k_areNear l n mks q f0 f1 f2 t0 t1 t2 we pa out ss hr 1 (by omega)) yX5_areNear_ok lkX5_87 ivX5_areNear slX5_areNear ⟨rfl, rfl, by decide, by decide⟩ (kX5_buildShift_ok.at 2 rfl) rfl rfl (by decide) rfl rfl rfl (fun _ _ q => by rw [q.2]) (fun r9 G1 q => ?_)
  obtain ⟨rfl, rfl⟩ := q
  refine hX.run (ft := ftX5) (ct := ctX5) (oc := []) kX5_buildShift_ok ftX5_ok ctX5_ok xnoc [] [] [] 120 ?_
  refine ⟨fun h => no (by rw [bI_0.mp h]; rfl), fun h => ?_⟩
  have hb := bI_t h
  refine hX.callS [21] [] (k_putLik l _ _ _ _ _ _) yX5_putLikeness_ok lkX5_91 ssX5_putLikeness ⟨rfl, rfl, by decide, by decide⟩ (kX5_buildShift_ok.at 32 rfl) rfl rfl (by decide) ⟨rfl, trivial⟩ rfl (fun _ _ q => by rw [q.2]; rfl) (fun r9 G1 q => ?_)
  obtain ⟨rfl, rfl⟩ := q
  refine hX.run (ft := ftX5) (ct := ctX5) (oc := []) kX5_buildShift_ok ftX5_ok ctX5_ok xnoc [] [] [] 120 ?_
  rw [if_pos hb]
  refine ⟨f0, f1, f2, t0, t1, t2, we, pa, _, rfl, fun _ i hi => ?_, rfl⟩
  unfold lik9
  rcases (show i = 0 ∨ i = 1 ∨ i = 2 ∨ i = 3 ∨ i = 4 ∨ i = 5 ∨ i = 6 ∨ i = 7 ∨ i = 8 by omega) with rfl | rfl | rfl | rfl | rfl | rfl | rfl | rfl | rfl <;> rfl
set_option maxHeartbeats 4000000 in
set_option maxRecDepth 100000 in
theorem k_bTurn (l : Launch) (n : Nat) (mks : Nat → Int32) (q : Nat → Nat → Int) (f0 f1 f2 t0 t1 t2 we pa out : Nat → Int64) (ss : Nat → Nat) (hr : MR n ss mks q) (u v : Int) (hu : ab u 1000) (hv : ab v 1000) : xM l yX5_buildTurn cX5_buildTurn 17 (some .int) rX5_buildTurn [.ref 0, .long (zl u), .long (zl v), .ref 21] [.inr (3, [.ref 1, .ref 2, .ref 3, .ref 4, .ref 5, .ref 6, .int (nI n)]), .inl (8, .inl (mks)), .inl (8, .inr (.inr (.inr (.inr (gmap))))), .inl (3, .inr (.inr (.inr (.inr (fmap))))), .inl (3, .inr (.inr (.inr (.inr (tmap))))), .inl (3, .inr (.inl (we))), .inl (2, .inr (.inl (pa))), .inl (3, .inr (.inl (fun i => zl (q 0 i)))), .inl (3, .inr (.inl (fun i => zl (q 1 i)))), .inl (3, .inr (.inl (fun i => zl (q 2 i)))), .inl (3, .inr (.inl (fun i => zl (q 3 i)))), .inl (3, .inr (.inl (fun i => zl (q 4 i)))), .inl (3, .inr (.inl (fun i => zl (q 5 i)))), .inl (3, .inr (.inl (fun i => zl (q 6 i)))), .inl (3, .inr (.inl (fun i => zl (q 7 i)))), .inl (3, .inr (.inl (f0))), .inl (3, .inr (.inl (f1))), .inl (3, .inr (.inl (f2))), .inl (3, .inr (.inl (t0))), .inl (3, .inr (.inl (t1))), .inl (3, .inr (.inl (t2))), .inl (9, .inr (.inl (out)))] (fun r G => ∃ f0' f1' f2' t0' t1' t2' we' pa' out', r = some (.int (zi (if cNear n ss q 1 = true ∧ ¬ (u = 0 ∧ v = 0) then 0 else -3))) ∧ ((if cNear n ss q 1 = true ∧ ¬ (u = 0 ∧ v = 0) then 0 else -3) = 0 → ∀ i, i < 9 → out' i = zl (simT 1 (q 0) u v i)) ∧ G = [.inr (3, [.ref 1, .ref 2, .ref 3, .ref 4, .ref 5, .ref 6, .int (nI n)]), .inl (8, .inl (mks)), .inl (8, .inr (.inr (.inr (.inr (gmap))))), .inl (3, .inr (.inr (.inr (.inr (fmap))))), .inl (3, .inr (.inr (.inr (.inr (tmap))))), .inl (3, .inr (.inl (we'))), .inl (2, .inr (.inl (pa'))), .inl (3, .inr (.inl (fun i => zl (q 0 i)))), .inl (3, .inr (.inl (fun i => zl (q 1 i)))), .inl (3, .inr (.inl (fun i => zl (q 2 i)))), .inl (3, .inr (.inl (fun i => zl (q 3 i)))), .inl (3, .inr (.inl (fun i => zl (q 4 i)))), .inl (3, .inr (.inl (fun i => zl (q 5 i)))), .inl (3, .inr (.inl (fun i => zl (q 6 i)))), .inl (3, .inr (.inl (fun i => zl (q 7 i)))), .inl (3, .inr (.inl (f0'))), .inl (3, .inr (.inl (f1'))), .inl (3, .inr (.inl (f2'))), .inl (3, .inr (.inl (t0'))), .inl (3, .inr (.inl (t1'))), .inl (3, .inr (.inl (t2'))), .inl (9, .inr (.inl (out')))]) := by
  refine xM.of (by decide) (Nat.le_of_ble_eq_true rfl) (fun X hX => ?_)
  have no : (if cNear n ss q 1 = true ∧ ¬ (u = 0 ∧ v = 0) then 0 else -3) = -3 → ∃ f0' f1' f2' t0' t1' t2' we' pa' out', some (Value.int (Int8.ofInt (-3)).toInt32) = some (.int (zi (if cNear n ss q 1 = true ∧ ¬ (u = 0 ∧ v = 0) then 0 else -3))) ∧ ((if cNear n ss q 1 = true ∧ ¬ (u = 0 ∧ v = 0) then 0 else -3) = 0 → ∀ i, i < 9 → out' i = zl (simT 1 (q 0) u v i)) ∧ ([.inr (3, [.ref 1, .ref 2, .ref 3, .ref 4, .ref 5, .ref 6, .int (nI n)]), .inl (8, .inl (mks)), .inl (8, .inr (.inr (.inr (.inr (gmap))))), .inl (3, .inr (.inr (.inr (.inr (fmap))))), .inl (3, .inr (.inr (.inr (.inr (tmap))))), .inl (3, .inr (.inl (we))), .inl (2, .inr (.inl (pa))), .inl (3, .inr (.inl (fun i => zl (q 0 i)))), .inl (3, .inr (.inl (fun i => zl (q 1 i)))), .inl (3, .inr (.inl (fun i => zl (q 2 i)))), .inl (3, .inr (.inl (fun i => zl (q 3 i)))), .inl (3, .inr (.inl (fun i => zl (q 4 i)))), .inl (3, .inr (.inl (fun i => zl (q 5 i)))), .inl (3, .inr (.inl (fun i => zl (q 6 i)))), .inl (3, .inr (.inl (fun i => zl (q 7 i)))), .inl (3, .inr (.inl (f0))), .inl (3, .inr (.inl (f1))), .inl (3, .inr (.inl (f2))), .inl (3, .inr (.inl (t0))), .inl (3, .inr (.inl (t1))), .inl (3, .inr (.inl (t2))), .inl (9, .inr (.inl (out)))] : List xE) = [.inr (3, [.ref 1, .ref 2, .ref 3, .ref 4, .ref 5, .ref 6, .int (nI n)]), .inl (8, .inl (mks)), .inl (8, .inr (.inr (.inr (.inr (gmap))))), .inl (3, .inr (.inr (.inr (.inr (fmap))))), .inl (3, .inr (.inr (.inr (.inr (tmap))))), .inl (3, .inr (.inl (we'))), .inl (2, .inr (.inl (pa'))), .inl (3, .inr (.inl (fun i => zl (q 0 i)))), .inl (3, .inr (.inl (fun i => zl (q 1 i)))), .inl (3, .inr (.inl (fun i => zl (q 2 i)))), .inl (3, .inr (.inl (fun i => zl (q 3 i)))), .inl (3, .inr (.inl (fun i => zl (q 4 i)))), .inl (3, .inr (.inl (fun i => zl (q 5 i)))), .inl (3, .inr (.inl (fun i => zl (q 6 i)))), .inl (3, .inr (.inl (fun i => zl (q 7 i)))), .inl (3, .inr (.inl (f0'))), .inl (3, .inr (.inl (f1'))), .inl (3, .inr (.inl (f2'))), .inl (3, .inr (.inl (t0'))), .inl (3, .inr (.inl (t1'))), .inl (3, .inr (.inl (t2'))), .inl (9, .inr (.inl (out')))] := by
    intro h
    rw [h]
    exact ⟨f0, f1, f2, t0, t1, t2, we, pa, out, rfl, fun q => absurd q (by decide), rfl⟩
  have j0 : jr 0 := ⟨by omega, by omega⟩
  have ju : jr u := ab_jr hu (by decide)
  have jv : jr v := ab_jr hv (by decide)
  refine hX.run (ft := ftX5) (ct := ctX5) (oc := []) kX5_buildTurn_ok ftX5_ok ctX5_ok xnoc [] [] [] 120 ?_
  refine hX.callV0 (rest := []) (k_areNear l n mks q f0 f1 f2 t0 t1 t2 we pa out ss hr 1 (by omega)) yX5_areNear_ok lkX5_87 ivX5_areNear slX5_areNear ⟨rfl, rfl, by decide, by decide⟩ (kX5_buildTurn_ok.at 2 rfl) rfl rfl (by decide) rfl rfl rfl (fun _ _ q => by rw [q.2]) (fun r9 G1 q => ?_)
  obtain ⟨rfl, rfl⟩ := q
  have go : cNear n ss q 1 = true → ¬ (u = 0 ∧ v = 0) → X 23 [some (.ref 0), some (.long (zl u)), none, some (.long (zl v)), none, some (.ref 21), none, none, none, none, none, none, none, none, none, none, none] [] [.inr (3, [.ref 1, .ref 2, .ref 3, .ref 4, .ref 5, .ref 6, .int (nI n)]), .inl (8, .inl (mks)), .inl (8, .inr (.inr (.inr (.inr (gmap))))), .inl (3, .inr (.inr (.inr (.inr (fmap))))), .inl (3, .inr (.inr (.inr (.inr (tmap))))), .inl (3, .inr (.inl (we))), .inl (2, .inr (.inl (pa))), .inl (3, .inr (.inl (fun i => zl (q 0 i)))), .inl (3, .inr (.inl (fun i => zl (q 1 i)))), .inl (3, .inr (.inl (fun i => zl (q 2 i)))), .inl (3, .inr (.inl (fun i => zl (q 3 i)))), .inl (3, .inr (.inl (fun i => zl (q 4 i)))), .inl (3, .inr (.inl (fun i => zl (q 5 i)))), .inl (3, .inr (.inl (fun i => zl (q 6 i)))), .inl (3, .inr (.inl (fun i => zl (q 7 i)))), .inl (3, .inr (.inl (f0))), .inl (3, .inr (.inl (f1))), .inl (3, .inr (.inl (f2))), .inl (3, .inr (.inl (t0))), .inl (3, .inr (.inl (t1))), .inl (3, .inr (.inl (t2))), .inl (9, .inr (.inl (out)))] := by
    intro hb hn
    refine hX.run (ft := ftX5) (ct := ctX5) (oc := []) kX5_buildTurn_ok ftX5_ok ctX5_ok xnoc [] [] [] 120 ?_
    refine hX.callS [21] [] (k_putLik l _ _ _ _ _ _) yX5_putLikeness_ok lkX5_91 ssX5_putLikeness ⟨rfl, rfl, by decide, by decide⟩ (kX5_buildTurn_ok.at 125 rfl) rfl rfl (by decide) ⟨rfl, trivial⟩ rfl (fun _ _ q => by rw [q.2]; rfl) (fun r9 G1 q => ?_)
    obtain ⟨rfl, rfl⟩ := q
    refine hX.run (ft := ftX5) (ct := ctX5) (oc := []) kX5_buildTurn_ok ftX5_ok ctX5_ok xnoc [] [] [] 120 ?_
    rw [if_pos ⟨hb, hn⟩]
    refine ⟨f0, f1, f2, t0, t1, t2, we, pa, _, rfl, fun _ i hi => ?_, rfl⟩
    have e2 : (2 : Int64) = zl 2 := rfl
    unfold lik9
    simp only [e2, zl_mul, zl_add, zl_sub, zl_neg]
    rcases (show i = 0 ∨ i = 1 ∨ i = 2 ∨ i = 3 ∨ i = 4 ∨ i = 5 ∨ i = 6 ∨ i = 7 ∨ i = 8 by omega) with rfl | rfl | rfl | rfl | rfl | rfl | rfl | rfl | rfl
    · exact zl_pair (show _ = (u * u - v * v) * q 0 2 by grind)
    · exact zl_pair (show _ = -(2 * u * v) * q 0 2 by grind)
    · exact zl_pair (show _ = q 0 0 * (u * u + v * v) - (u * u - v * v) * q 0 0 + 2 * u * v * q 0 1 by grind)
    · exact zl_pair (show _ = 2 * u * v * q 0 2 by grind)
    · exact zl_pair (show _ = (u * u - v * v) * q 0 2 by grind)
    · exact zl_pair (show _ = q 0 1 * (u * u + v * v) - 2 * u * v * q 0 0 - (u * u - v * v) * q 0 1 by grind)
    · rfl
    · rfl
    · exact zl_pair (show _ = (u * u + v * v) * q 0 2 by grind)
  refine hX.run (ft := ftX5) (ct := ctX5) (oc := []) kX5_buildTurn_ok ftX5_ok ctX5_ok xnoc [23] [] [] 120 ?_
  refine ⟨fun h => no (if_neg (fun q => by rw [bI_0.mp h] at q; exact Bool.noConfusion q.1)), fun h => ?_⟩
  have hb := bI_t h
  refine ⟨fun h => ?_, fun h => go hb (fun q => (lcn h rfl rfl : ¬ u = 0) q.1)⟩
  have gu : u = 0 := lce h rfl rfl ju j0
  refine ⟨fun h => ?_, fun h => go hb (fun q => (lcn h rfl rfl : ¬ v = 0) q.2)⟩
  have gv : v = 0 := lce h rfl rfl jv j0
  exact no (if_neg (fun q => q.2 ⟨gu, gv⟩))
set_option maxHeartbeats 4000000 in
set_option maxRecDepth 100000 in
theorem k_bStretch (l : Launch) (n : Nat) (mks : Nat → Int32) (q : Nat → Nat → Int) (f0 f1 f2 t0 t1 t2 we pa out : Nat → Int64) (ss : Nat → Nat) (hr : MR n ss mks q) (u v : Int) (hu : ab u 1000) (hv : ab v 1000) : xM l yX5_buildStretch cX5_buildStretch 7 (some .int) rX5_buildStretch [.ref 0, .long (zl u), .long (zl v), .ref 21] [.inr (3, [.ref 1, .ref 2, .ref 3, .ref 4, .ref 5, .ref 6, .int (nI n)]), .inl (8, .inl (mks)), .inl (8, .inr (.inr (.inr (.inr (gmap))))), .inl (3, .inr (.inr (.inr (.inr (fmap))))), .inl (3, .inr (.inr (.inr (.inr (tmap))))), .inl (3, .inr (.inl (we))), .inl (2, .inr (.inl (pa))), .inl (3, .inr (.inl (fun i => zl (q 0 i)))), .inl (3, .inr (.inl (fun i => zl (q 1 i)))), .inl (3, .inr (.inl (fun i => zl (q 2 i)))), .inl (3, .inr (.inl (fun i => zl (q 3 i)))), .inl (3, .inr (.inl (fun i => zl (q 4 i)))), .inl (3, .inr (.inl (fun i => zl (q 5 i)))), .inl (3, .inr (.inl (fun i => zl (q 6 i)))), .inl (3, .inr (.inl (fun i => zl (q 7 i)))), .inl (3, .inr (.inl (f0))), .inl (3, .inr (.inl (f1))), .inl (3, .inr (.inl (f2))), .inl (3, .inr (.inl (t0))), .inl (3, .inr (.inl (t1))), .inl (3, .inr (.inl (t2))), .inl (9, .inr (.inl (out)))] (fun r G => ∃ f0' f1' f2' t0' t1' t2' we' pa' out', r = some (.int (zi (if cNear n ss q 1 = true ∧ ¬ u = 0 ∧ ¬ v = 0 then 0 else -3))) ∧ ((if cNear n ss q 1 = true ∧ ¬ u = 0 ∧ ¬ v = 0 then 0 else -3) = 0 → ∀ i, i < 9 → out' i = zl (simT 3 (q 0) u v i)) ∧ G = [.inr (3, [.ref 1, .ref 2, .ref 3, .ref 4, .ref 5, .ref 6, .int (nI n)]), .inl (8, .inl (mks)), .inl (8, .inr (.inr (.inr (.inr (gmap))))), .inl (3, .inr (.inr (.inr (.inr (fmap))))), .inl (3, .inr (.inr (.inr (.inr (tmap))))), .inl (3, .inr (.inl (we'))), .inl (2, .inr (.inl (pa'))), .inl (3, .inr (.inl (fun i => zl (q 0 i)))), .inl (3, .inr (.inl (fun i => zl (q 1 i)))), .inl (3, .inr (.inl (fun i => zl (q 2 i)))), .inl (3, .inr (.inl (fun i => zl (q 3 i)))), .inl (3, .inr (.inl (fun i => zl (q 4 i)))), .inl (3, .inr (.inl (fun i => zl (q 5 i)))), .inl (3, .inr (.inl (fun i => zl (q 6 i)))), .inl (3, .inr (.inl (fun i => zl (q 7 i)))), .inl (3, .inr (.inl (f0'))), .inl (3, .inr (.inl (f1'))), .inl (3, .inr (.inl (f2'))), .inl (3, .inr (.inl (t0'))), .inl (3, .inr (.inl (t1'))), .inl (3, .inr (.inl (t2'))), .inl (9, .inr (.inl (out')))]) := by
  refine xM.of (by decide) (Nat.le_of_ble_eq_true rfl) (fun X hX => ?_)
  have no : (if cNear n ss q 1 = true ∧ ¬ u = 0 ∧ ¬ v = 0 then 0 else -3) = -3 → ∃ f0' f1' f2' t0' t1' t2' we' pa' out', some (Value.int (Int8.ofInt (-3)).toInt32) = some (.int (zi (if cNear n ss q 1 = true ∧ ¬ u = 0 ∧ ¬ v = 0 then 0 else -3))) ∧ ((if cNear n ss q 1 = true ∧ ¬ u = 0 ∧ ¬ v = 0 then 0 else -3) = 0 → ∀ i, i < 9 → out' i = zl (simT 3 (q 0) u v i)) ∧ ([.inr (3, [.ref 1, .ref 2, .ref 3, .ref 4, .ref 5, .ref 6, .int (nI n)]), .inl (8, .inl (mks)), .inl (8, .inr (.inr (.inr (.inr (gmap))))), .inl (3, .inr (.inr (.inr (.inr (fmap))))), .inl (3, .inr (.inr (.inr (.inr (tmap))))), .inl (3, .inr (.inl (we))), .inl (2, .inr (.inl (pa))), .inl (3, .inr (.inl (fun i => zl (q 0 i)))), .inl (3, .inr (.inl (fun i => zl (q 1 i)))), .inl (3, .inr (.inl (fun i => zl (q 2 i)))), .inl (3, .inr (.inl (fun i => zl (q 3 i)))), .inl (3, .inr (.inl (fun i => zl (q 4 i)))), .inl (3, .inr (.inl (fun i => zl (q 5 i)))), .inl (3, .inr (.inl (fun i => zl (q 6 i)))), .inl (3, .inr (.inl (fun i => zl (q 7 i)))), .inl (3, .inr (.inl (f0))), .inl (3, .inr (.inl (f1))), .inl (3, .inr (.inl (f2))), .inl (3, .inr (.inl (t0))), .inl (3, .inr (.inl (t1))), .inl (3, .inr (.inl (t2))), .inl (9, .inr (.inl (out)))] : List xE) = [.inr (3, [.ref 1, .ref 2, .ref 3, .ref 4, .ref 5, .ref 6, .int (nI n)]), .inl (8, .inl (mks)), .inl (8, .inr (.inr (.inr (.inr (gmap))))), .inl (3, .inr (.inr (.inr (.inr (fmap))))), .inl (3, .inr (.inr (.inr (.inr (tmap))))), .inl (3, .inr (.inl (we'))), .inl (2, .inr (.inl (pa'))), .inl (3, .inr (.inl (fun i => zl (q 0 i)))), .inl (3, .inr (.inl (fun i => zl (q 1 i)))), .inl (3, .inr (.inl (fun i => zl (q 2 i)))), .inl (3, .inr (.inl (fun i => zl (q 3 i)))), .inl (3, .inr (.inl (fun i => zl (q 4 i)))), .inl (3, .inr (.inl (fun i => zl (q 5 i)))), .inl (3, .inr (.inl (fun i => zl (q 6 i)))), .inl (3, .inr (.inl (fun i => zl (q 7 i)))), .inl (3, .inr (.inl (f0'))), .inl (3, .inr (.inl (f1'))), .inl (3, .inr (.inl (f2'))), .inl (3, .inr (.inl (t0'))), .inl (3, .inr (.inl (t1'))), .inl (3, .inr (.inl (t2'))), .inl (9, .inr (.inl (out')))] := by
    intro h
    rw [h]
    exact ⟨f0, f1, f2, t0, t1, t2, we, pa, out, rfl, fun q => absurd q (by decide), rfl⟩
  have j0 : jr 0 := ⟨by omega, by omega⟩
  have ju : jr u := ab_jr hu (by decide)
  have jv : jr v := ab_jr hv (by decide)
  refine hX.run (ft := ftX5) (ct := ctX5) (oc := []) kX5_buildStretch_ok ftX5_ok ctX5_ok xnoc [] [] [] 120 ?_
  refine hX.callV0 (rest := []) (k_areNear l n mks q f0 f1 f2 t0 t1 t2 we pa out ss hr 1 (by omega)) yX5_areNear_ok lkX5_87 ivX5_areNear slX5_areNear ⟨rfl, rfl, by decide, by decide⟩ (kX5_buildStretch_ok.at 2 rfl) rfl rfl (by decide) rfl rfl rfl (fun _ _ q => by rw [q.2]) (fun r9 G1 q => ?_)
  obtain ⟨rfl, rfl⟩ := q
  refine hX.run (ft := ftX5) (ct := ctX5) (oc := []) kX5_buildStretch_ok ftX5_ok ctX5_ok xnoc [] [] [] 120 ?_
  refine ⟨fun h => no (if_neg (fun q => by rw [bI_0.mp h] at q; exact Bool.noConfusion q.1)), fun h => ?_⟩
  have hb := bI_t h
  refine ⟨fun h => no (if_neg (fun q => q.2.1 (lce h rfl rfl ju j0))), fun h => ?_⟩
  have gu : ¬ u = 0 := lcn h rfl rfl
  refine ⟨fun h => no (if_neg (fun q => q.2.2 (lce h rfl rfl jv j0))), fun h => ?_⟩
  have gv : ¬ v = 0 := lcn h rfl rfl
  refine hX.callS [21] [] (k_putLik l _ _ _ _ _ _) yX5_putLikeness_ok lkX5_91 ssX5_putLikeness ⟨rfl, rfl, by decide, by decide⟩ (kX5_buildStretch_ok.at 62 rfl) rfl rfl (by decide) ⟨rfl, trivial⟩ rfl (fun _ _ q => by rw [q.2]; rfl) (fun r9 G1 q => ?_)
  obtain ⟨rfl, rfl⟩ := q
  refine hX.run (ft := ftX5) (ct := ctX5) (oc := []) kX5_buildStretch_ok ftX5_ok ctX5_ok xnoc [] [] [] 120 ?_
  rw [if_pos ⟨hb, gu, gv⟩]
  refine ⟨f0, f1, f2, t0, t1, t2, we, pa, _, rfl, fun _ i hi => ?_, rfl⟩
  unfold lik9
  simp only [zl_mul, zl_add, zl_sub]
  rcases (show i = 0 ∨ i = 1 ∨ i = 2 ∨ i = 3 ∨ i = 4 ∨ i = 5 ∨ i = 6 ∨ i = 7 ∨ i = 8 by omega) with rfl | rfl | rfl | rfl | rfl | rfl | rfl | rfl | rfl
  · exact zl_pair (show _ = u * q 0 2 by grind)
  · rfl
  · exact zl_pair (show _ = q 0 0 * (v - u) by grind)
  · rfl
  · exact zl_pair (show _ = u * q 0 2 by grind)
  · exact zl_pair (show _ = q 0 1 * (v - u) by grind)
  · rfl
  · rfl
  · exact zl_pair (show _ = v * q 0 2 by grind)

set_option maxHeartbeats 4000000 in
set_option maxRecDepth 100000 in
theorem k_bGlide (l : Launch) (n : Nat) (mks : Nat → Int32) (q : Nat → Nat → Int) (f0 f1 f2 t0 t1 t2 we pa out : Nat → Int64) (ss : Nat → Nat) (hr : MR n ss mks q) (u v : Int) (hu : ab u 1000) (hv : ab v 1000) : xM l yX5_buildGlide cX5_buildGlide 16 (some .int) rX5_buildGlide [.ref 0, .long (zl u), .long (zl v), .ref 21] [.inr (3, [.ref 1, .ref 2, .ref 3, .ref 4, .ref 5, .ref 6, .int (nI n)]), .inl (8, .inl (mks)), .inl (8, .inr (.inr (.inr (.inr (gmap))))), .inl (3, .inr (.inr (.inr (.inr (fmap))))), .inl (3, .inr (.inr (.inr (.inr (tmap))))), .inl (3, .inr (.inl (we))), .inl (2, .inr (.inl (pa))), .inl (3, .inr (.inl (fun i => zl (q 0 i)))), .inl (3, .inr (.inl (fun i => zl (q 1 i)))), .inl (3, .inr (.inl (fun i => zl (q 2 i)))), .inl (3, .inr (.inl (fun i => zl (q 3 i)))), .inl (3, .inr (.inl (fun i => zl (q 4 i)))), .inl (3, .inr (.inl (fun i => zl (q 5 i)))), .inl (3, .inr (.inl (fun i => zl (q 6 i)))), .inl (3, .inr (.inl (fun i => zl (q 7 i)))), .inl (3, .inr (.inl (f0))), .inl (3, .inr (.inl (f1))), .inl (3, .inr (.inl (f2))), .inl (3, .inr (.inl (t0))), .inl (3, .inr (.inl (t1))), .inl (3, .inr (.inl (t2))), .inl (9, .inr (.inl (out)))] (fun r G => ∃ f0' f1' f2' t0' t1' t2' we' pa' out', r = some (.int (zi (if cAll n ss 1 1 = true ∧ ¬ v = 0 ∧ ¬ q 0 0 * q 0 0 + q 0 1 * q 0 1 = 0 then 0 else -3))) ∧ ((if cAll n ss 1 1 = true ∧ ¬ v = 0 ∧ ¬ q 0 0 * q 0 0 + q 0 1 * q 0 1 = 0 then 0 else -3) = 0 → ∀ i, i < 9 → out' i = zl (mul9 (gliO (q 0) u v) (mirT (q 0)) i)) ∧ G = [.inr (3, [.ref 1, .ref 2, .ref 3, .ref 4, .ref 5, .ref 6, .int (nI n)]), .inl (8, .inl (mks)), .inl (8, .inr (.inr (.inr (.inr (gmap))))), .inl (3, .inr (.inr (.inr (.inr (fmap))))), .inl (3, .inr (.inr (.inr (.inr (tmap))))), .inl (3, .inr (.inl (we'))), .inl (2, .inr (.inl (pa'))), .inl (3, .inr (.inl (fun i => zl (q 0 i)))), .inl (3, .inr (.inl (fun i => zl (q 1 i)))), .inl (3, .inr (.inl (fun i => zl (q 2 i)))), .inl (3, .inr (.inl (fun i => zl (q 3 i)))), .inl (3, .inr (.inl (fun i => zl (q 4 i)))), .inl (3, .inr (.inl (fun i => zl (q 5 i)))), .inl (3, .inr (.inl (fun i => zl (q 6 i)))), .inl (3, .inr (.inl (fun i => zl (q 7 i)))), .inl (3, .inr (.inl (f0'))), .inl (3, .inr (.inl (f1'))), .inl (3, .inr (.inl (f2'))), .inl (3, .inr (.inl (t0'))), .inl (3, .inr (.inl (t1'))), .inl (3, .inr (.inl (t2'))), .inl (9, .inr (.inl (out')))]) := by
  refine xM.of (by decide) (Nat.le_of_ble_eq_true rfl) (fun X hX => ?_)
  have no : (if cAll n ss 1 1 = true ∧ ¬ v = 0 ∧ ¬ q 0 0 * q 0 0 + q 0 1 * q 0 1 = 0 then 0 else -3) = -3 → ∃ f0' f1' f2' t0' t1' t2' we' pa' out', some (Value.int (Int8.ofInt (-3)).toInt32) = some (.int (zi (if cAll n ss 1 1 = true ∧ ¬ v = 0 ∧ ¬ q 0 0 * q 0 0 + q 0 1 * q 0 1 = 0 then 0 else -3))) ∧ ((if cAll n ss 1 1 = true ∧ ¬ v = 0 ∧ ¬ q 0 0 * q 0 0 + q 0 1 * q 0 1 = 0 then 0 else -3) = 0 → ∀ i, i < 9 → out' i = zl (mul9 (gliO (q 0) u v) (mirT (q 0)) i)) ∧ ([.inr (3, [.ref 1, .ref 2, .ref 3, .ref 4, .ref 5, .ref 6, .int (nI n)]), .inl (8, .inl (mks)), .inl (8, .inr (.inr (.inr (.inr (gmap))))), .inl (3, .inr (.inr (.inr (.inr (fmap))))), .inl (3, .inr (.inr (.inr (.inr (tmap))))), .inl (3, .inr (.inl (we))), .inl (2, .inr (.inl (pa))), .inl (3, .inr (.inl (fun i => zl (q 0 i)))), .inl (3, .inr (.inl (fun i => zl (q 1 i)))), .inl (3, .inr (.inl (fun i => zl (q 2 i)))), .inl (3, .inr (.inl (fun i => zl (q 3 i)))), .inl (3, .inr (.inl (fun i => zl (q 4 i)))), .inl (3, .inr (.inl (fun i => zl (q 5 i)))), .inl (3, .inr (.inl (fun i => zl (q 6 i)))), .inl (3, .inr (.inl (fun i => zl (q 7 i)))), .inl (3, .inr (.inl (f0))), .inl (3, .inr (.inl (f1))), .inl (3, .inr (.inl (f2))), .inl (3, .inr (.inl (t0))), .inl (3, .inr (.inl (t1))), .inl (3, .inr (.inl (t2))), .inl (9, .inr (.inl (out)))] : List xE) = [.inr (3, [.ref 1, .ref 2, .ref 3, .ref 4, .ref 5, .ref 6, .int (nI n)]), .inl (8, .inl (mks)), .inl (8, .inr (.inr (.inr (.inr (gmap))))), .inl (3, .inr (.inr (.inr (.inr (fmap))))), .inl (3, .inr (.inr (.inr (.inr (tmap))))), .inl (3, .inr (.inl (we'))), .inl (2, .inr (.inl (pa'))), .inl (3, .inr (.inl (fun i => zl (q 0 i)))), .inl (3, .inr (.inl (fun i => zl (q 1 i)))), .inl (3, .inr (.inl (fun i => zl (q 2 i)))), .inl (3, .inr (.inl (fun i => zl (q 3 i)))), .inl (3, .inr (.inl (fun i => zl (q 4 i)))), .inl (3, .inr (.inl (fun i => zl (q 5 i)))), .inl (3, .inr (.inl (fun i => zl (q 6 i)))), .inl (3, .inr (.inl (fun i => zl (q 7 i)))), .inl (3, .inr (.inl (f0'))), .inl (3, .inr (.inl (f1'))), .inl (3, .inr (.inl (f2'))), .inl (3, .inr (.inl (t0'))), .inl (3, .inr (.inl (t1'))), .inl (3, .inr (.inl (t2'))), .inl (9, .inr (.inl (out')))] := by
    intro h
    rw [h]
    exact ⟨f0, f1, f2, t0, t1, t2, we, pa, out, rfl, fun q => absurd q (by decide), rfl⟩
  have j0 : jr 0 := ⟨by omega, by omega⟩
  have ju : jr u := ab_jr hu (by decide)
  have jv : jr v := ab_jr hv (by decide)
  refine hX.run (ft := ftX5) (ct := ctX5) (oc := []) kX5_buildGlide_ok ftX5_ok ctX5_ok xnoc [] [] [] 120 ?_
  refine hX.callV0 (rest := []) (k_areAll l n mks q f0 f1 f2 t0 t1 t2 we pa out ss hr 1 1 (by omega) (by omega)) yX5_areAll_ok lkX5_97 ivX5_areAll slX5_areAll ⟨rfl, rfl, by decide, by decide⟩ (kX5_buildGlide_ok.at 3 rfl) rfl rfl (by decide) rfl rfl rfl (fun _ _ q => by rw [q.2]) (fun r9 G1 q => ?_)
  obtain ⟨rfl, rfl⟩ := q
  refine hX.run (ft := ftX5) (ct := ctX5) (oc := []) kX5_buildGlide_ok ftX5_ok ctX5_ok xnoc [48] [] [] 120 ?_
  refine ⟨fun h => no (if_neg (fun q => by rw [bI_0.mp h] at q; exact Bool.noConfusion q.1)), fun h => ?_⟩
  have hb := bI_t h
  obtain ⟨hn, hs⟩ := all1 hb
  refine ⟨fun h => no (if_neg (fun q => q.2.1 (lce h rfl rfl jv j0))), fun h => ?_⟩
  have gv : ¬ v = 0 := lcn h rfl rfl
  have js : jr (q 0 0 * q 0 0 + q 0 1 * q 0 1) := ab_jr (ab_add (ab_mul (hr.2.2 0 0 (by omega) (by omega)) (hr.2.2 0 0 (by omega) (by omega))) (ab_mul (hr.2.2 0 1 (by omega) (by omega)) (hr.2.2 0 1 (by omega) (by omega)))) (by decide)
  refine hX.run (ft := ftX5) (ct := ctX5) (oc := []) kX5_buildGlide_ok ftX5_ok ctX5_ok xnoc [71] [] [] 120 ?_
  refine ⟨fun h => no (if_neg (fun q => q.2.2 (lce h (by simp only [zl_mul, zl_add]) rfl js j0))), fun h => ?_⟩
  have gs9 : ¬ q 0 0 * q 0 0 + q 0 1 * q 0 1 = 0 := lcn h (by simp only [zl_mul, zl_add]) rfl
  refine hX.run (ft := ftX5) (ct := ctX5) (oc := []) kX5_buildGlide_ok ftX5_ok ctX5_ok xnoc [] [] [] 120 ?_
  refine hX.callS [21] [] (k_putRow l _ 0 (by omega) _ _ _) yX9_putRow_ok lkX5_103 ssX9_putRow ⟨rfl, rfl, by decide, by decide⟩ (kX5_buildGlide_ok.at 121 rfl) rfl rfl (by decide) ⟨rfl, trivial⟩ rfl (fun _ _ q => by rw [q.2]; rfl) (fun r9 G1 q => ?_)
  obtain ⟨rfl, rfl⟩ := q
  refine hX.run (ft := ftX5) (ct := ctX5) (oc := []) kX5_buildGlide_ok ftX5_ok ctX5_ok xnoc [] [] [] 120 ?_
  refine hX.callS [21] [] (k_putRow l _ 1 (by omega) _ _ _) yX9_putRow_ok lkX5_103 ssX9_putRow ⟨rfl, rfl, by decide, by decide⟩ (kX5_buildGlide_ok.at 161 rfl) rfl rfl (by decide) ⟨rfl, trivial⟩ rfl (fun _ _ q => by rw [q.2]; rfl) (fun r9 G1 q => ?_)
  obtain ⟨rfl, rfl⟩ := q
  refine hX.run (ft := ftX5) (ct := ctX5) (oc := []) kX5_buildGlide_ok ftX5_ok ctX5_ok xnoc [] [] [] 120 ?_
  refine hX.callS [21] [] (k_putRow l _ 2 (by omega) _ _ _) yX9_putRow_ok lkX5_103 ssX9_putRow ⟨rfl, rfl, by decide, by decide⟩ (kX5_buildGlide_ok.at 173 rfl) rfl rfl (by decide) ⟨rfl, trivial⟩ rfl (fun _ _ q => by rw [q.2]; rfl) (fun r9 G1 q => ?_)
  obtain ⟨rfl, rfl⟩ := q
  refine hX.run (ft := ftX5) (ct := ctX5) (oc := []) kX5_buildGlide_ok ftX5_ok ctX5_ok xnoc [] [] [] 120 ?_
  rw [if_pos ⟨hb, gv, gs9⟩]
  refine ⟨f0, f1, f2, t0, t1, t2, we, pa, _, rfl, fun _ i hi => ?_, rfl⟩
  have e2 : (-2 : Int64) = zl (-2) := rfl
  unfold pr3
  simp only [e2, zl_mul, zl_add, zl_sub]
  rcases (show i = 0 ∨ i = 1 ∨ i = 2 ∨ i = 3 ∨ i = 4 ∨ i = 5 ∨ i = 6 ∨ i = 7 ∨ i = 8 by omega) with rfl | rfl | rfl | rfl | rfl | rfl | rfl | rfl | rfl
  · exact zl_pair (show _ = v * (q 0 1 * q 0 1 - q 0 0 * q 0 0) + 0 * (-2 * q 0 0 * q 0 1) + (-u * q 0 1) * 0 by grind)
  · exact zl_pair (show _ = v * (-2 * q 0 0 * q 0 1) + 0 * (q 0 0 * q 0 0 - q 0 1 * q 0 1) + (-u * q 0 1) * 0 by grind)
  · exact zl_pair (show _ = v * (-2 * q 0 0 * q 0 2) + 0 * (-2 * q 0 1 * q 0 2) + (-u * q 0 1) * (q 0 0 * q 0 0 + q 0 1 * q 0 1) by grind)
  · exact zl_pair (show _ = 0 * (q 0 1 * q 0 1 - q 0 0 * q 0 0) + v * (-2 * q 0 0 * q 0 1) + (u * q 0 0) * 0 by grind)
  · exact zl_pair (show _ = 0 * (-2 * q 0 0 * q 0 1) + v * (q 0 0 * q 0 0 - q 0 1 * q 0 1) + (u * q 0 0) * 0 by grind)
  · exact zl_pair (show _ = 0 * (-2 * q 0 0 * q 0 2) + v * (-2 * q 0 1 * q 0 2) + (u * q 0 0) * (q 0 0 * q 0 0 + q 0 1 * q 0 1) by grind)
  · exact zl_pair (show (0 : Int) = 0 * (q 0 1 * q 0 1 - q 0 0 * q 0 0) + 0 * (-2 * q 0 0 * q 0 1) + v * 0 by grind)
  · exact zl_pair (show (0 : Int) = 0 * (-2 * q 0 0 * q 0 1) + 0 * (q 0 0 * q 0 0 - q 0 1 * q 0 1) + v * 0 by grind)
  · exact zl_pair (show _ = 0 * (-2 * q 0 0 * q 0 2) + 0 * (-2 * q 0 1 * q 0 2) + v * (q 0 0 * q 0 0 + q 0 1 * q 0 1) by grind)

set_option maxHeartbeats 4000000 in
set_option maxRecDepth 100000 in
theorem k_bAny (l : Launch) (n : Nat) (mks : Nat → Int32) (q : Nat → Nat → Int) (f0 f1 f2 t0 t1 t2 we pa out : Nat → Int64) (ss : Nat → Nat) (hr : MR n ss mks q) : xM l yX5_buildAny cX5_buildAny 3 (some .int) rX5_buildAny [.ref 0, .ref 21] [.inr (3, [.ref 1, .ref 2, .ref 3, .ref 4, .ref 5, .ref 6, .int (nI n)]), .inl (8, .inl (mks)), .inl (8, .inr (.inr (.inr (.inr (gmap))))), .inl (3, .inr (.inr (.inr (.inr (fmap))))), .inl (3, .inr (.inr (.inr (.inr (tmap))))), .inl (3, .inr (.inl (we))), .inl (2, .inr (.inl (pa))), .inl (3, .inr (.inl (fun i => zl (q 0 i)))), .inl (3, .inr (.inl (fun i => zl (q 1 i)))), .inl (3, .inr (.inl (fun i => zl (q 2 i)))), .inl (3, .inr (.inl (fun i => zl (q 3 i)))), .inl (3, .inr (.inl (fun i => zl (q 4 i)))), .inl (3, .inr (.inl (fun i => zl (q 5 i)))), .inl (3, .inr (.inl (fun i => zl (q 6 i)))), .inl (3, .inr (.inl (fun i => zl (q 7 i)))), .inl (3, .inr (.inl (f0))), .inl (3, .inr (.inl (f1))), .inl (3, .inr (.inl (f2))), .inl (3, .inr (.inl (t0))), .inl (3, .inr (.inl (t1))), .inl (3, .inr (.inl (t2))), .inl (9, .inr (.inl (out)))] (fun r G => ∃ f0' f1' f2' t0' t1' t2' we' pa' out', r = some (.int (zi (if cAll n ss 1 3 = true ∧ ¬ det9 (fun i => q (i / 3) (i % 3)) = 0 then 0 else -3))) ∧ ((if cAll n ss 1 3 = true ∧ ¬ det9 (fun i => q (i / 3) (i % 3)) = 0 then 0 else -3) = 0 → ∀ i, i < 9 → out' i = zl ((fun i => q (i / 3) (i % 3)) i)) ∧ G = [.inr (3, [.ref 1, .ref 2, .ref 3, .ref 4, .ref 5, .ref 6, .int (nI n)]), .inl (8, .inl (mks)), .inl (8, .inr (.inr (.inr (.inr (gmap))))), .inl (3, .inr (.inr (.inr (.inr (fmap))))), .inl (3, .inr (.inr (.inr (.inr (tmap))))), .inl (3, .inr (.inl (we'))), .inl (2, .inr (.inl (pa'))), .inl (3, .inr (.inl (fun i => zl (q 0 i)))), .inl (3, .inr (.inl (fun i => zl (q 1 i)))), .inl (3, .inr (.inl (fun i => zl (q 2 i)))), .inl (3, .inr (.inl (fun i => zl (q 3 i)))), .inl (3, .inr (.inl (fun i => zl (q 4 i)))), .inl (3, .inr (.inl (fun i => zl (q 5 i)))), .inl (3, .inr (.inl (fun i => zl (q 6 i)))), .inl (3, .inr (.inl (fun i => zl (q 7 i)))), .inl (3, .inr (.inl (f0'))), .inl (3, .inr (.inl (f1'))), .inl (3, .inr (.inl (f2'))), .inl (3, .inr (.inl (t0'))), .inl (3, .inr (.inl (t1'))), .inl (3, .inr (.inl (t2'))), .inl (9, .inr (.inl (out')))]) := by
  refine xM.of (by decide) (Nat.le_of_ble_eq_true rfl) (fun X hX => ?_)
  have no : (if cAll n ss 1 3 = true ∧ ¬ det9 (fun i => q (i / 3) (i % 3)) = 0 then 0 else -3) = -3 → ∃ f0' f1' f2' t0' t1' t2' we' pa' out', some (Value.int (Int8.ofInt (-3)).toInt32) = some (.int (zi (if cAll n ss 1 3 = true ∧ ¬ det9 (fun i => q (i / 3) (i % 3)) = 0 then 0 else -3))) ∧ ((if cAll n ss 1 3 = true ∧ ¬ det9 (fun i => q (i / 3) (i % 3)) = 0 then 0 else -3) = 0 → ∀ i, i < 9 → out' i = zl ((fun i => q (i / 3) (i % 3)) i)) ∧ ([.inr (3, [.ref 1, .ref 2, .ref 3, .ref 4, .ref 5, .ref 6, .int (nI n)]), .inl (8, .inl (mks)), .inl (8, .inr (.inr (.inr (.inr (gmap))))), .inl (3, .inr (.inr (.inr (.inr (fmap))))), .inl (3, .inr (.inr (.inr (.inr (tmap))))), .inl (3, .inr (.inl (we))), .inl (2, .inr (.inl (pa))), .inl (3, .inr (.inl (fun i => zl (q 0 i)))), .inl (3, .inr (.inl (fun i => zl (q 1 i)))), .inl (3, .inr (.inl (fun i => zl (q 2 i)))), .inl (3, .inr (.inl (fun i => zl (q 3 i)))), .inl (3, .inr (.inl (fun i => zl (q 4 i)))), .inl (3, .inr (.inl (fun i => zl (q 5 i)))), .inl (3, .inr (.inl (fun i => zl (q 6 i)))), .inl (3, .inr (.inl (fun i => zl (q 7 i)))), .inl (3, .inr (.inl (f0))), .inl (3, .inr (.inl (f1))), .inl (3, .inr (.inl (f2))), .inl (3, .inr (.inl (t0))), .inl (3, .inr (.inl (t1))), .inl (3, .inr (.inl (t2))), .inl (9, .inr (.inl (out)))] : List xE) = [.inr (3, [.ref 1, .ref 2, .ref 3, .ref 4, .ref 5, .ref 6, .int (nI n)]), .inl (8, .inl (mks)), .inl (8, .inr (.inr (.inr (.inr (gmap))))), .inl (3, .inr (.inr (.inr (.inr (fmap))))), .inl (3, .inr (.inr (.inr (.inr (tmap))))), .inl (3, .inr (.inl (we'))), .inl (2, .inr (.inl (pa'))), .inl (3, .inr (.inl (fun i => zl (q 0 i)))), .inl (3, .inr (.inl (fun i => zl (q 1 i)))), .inl (3, .inr (.inl (fun i => zl (q 2 i)))), .inl (3, .inr (.inl (fun i => zl (q 3 i)))), .inl (3, .inr (.inl (fun i => zl (q 4 i)))), .inl (3, .inr (.inl (fun i => zl (q 5 i)))), .inl (3, .inr (.inl (fun i => zl (q 6 i)))), .inl (3, .inr (.inl (fun i => zl (q 7 i)))), .inl (3, .inr (.inl (f0'))), .inl (3, .inr (.inl (f1'))), .inl (3, .inr (.inl (f2'))), .inl (3, .inr (.inl (t0'))), .inl (3, .inr (.inl (t1'))), .inl (3, .inr (.inl (t2'))), .inl (9, .inr (.inl (out')))] := by
    intro h
    rw [h]
    exact ⟨f0, f1, f2, t0, t1, t2, we, pa, out, rfl, fun q => absurd q (by decide), rfl⟩
  have j0 : jr 0 := ⟨by omega, by omega⟩
  refine hX.run (ft := ftX5) (ct := ctX5) (oc := []) kX5_buildAny_ok ftX5_ok ctX5_ok xnoc [] [] [] 120 ?_
  refine hX.callV0 (rest := []) (k_areAll l n mks q f0 f1 f2 t0 t1 t2 we pa out ss hr 1 3 (by omega) (by omega)) yX5_areAll_ok lkX5_97 ivX5_areAll slX5_areAll ⟨rfl, rfl, by decide, by decide⟩ (kX5_buildAny_ok.at 3 rfl) rfl rfl (by decide) rfl rfl rfl (fun _ _ q => by rw [q.2]) (fun r9 G1 q => ?_)
  obtain ⟨rfl, rfl⟩ := q
  refine hX.run (ft := ftX5) (ct := ctX5) (oc := []) kX5_buildAny_ok ftX5_ok ctX5_ok xnoc [14] [] [] 120 ?_
  refine ⟨fun h => no (if_neg (fun q => by rw [bI_0.mp h] at q; exact Bool.noConfusion q.1)), fun h => ?_⟩
  have hb := bI_t h
  obtain ⟨hn, hs⟩ := all1 hb
  refine hX.run (ft := ftX5) (ct := ctX5) (oc := []) kX5_buildAny_ok ftX5_ok ctX5_ok xnoc [] [16] [] 120 ?_
  refine hX.callS [21] [] (k_putRow l _ 0 (by omega) _ _ _) yX9_putRow_ok lkX5_103 ssX9_putRow ⟨rfl, rfl, by decide, by decide⟩ (kX5_buildAny_ok.at 45 rfl) rfl rfl (by decide) ⟨rfl, trivial⟩ rfl (fun _ _ q => by rw [q.2]; rfl) (fun r9 G1 q => ?_)
  obtain ⟨rfl, rfl⟩ := q
  refine hX.run (ft := ftX5) (ct := ctX5) (oc := []) kX5_buildAny_ok ftX5_ok ctX5_ok xnoc [] [16] [] 120 ?_
  refine hX.callS [21] [] (k_putRow l _ 1 (by omega) _ _ _) yX9_putRow_ok lkX5_103 ssX9_putRow ⟨rfl, rfl, by decide, by decide⟩ (kX5_buildAny_ok.at 45 rfl) rfl rfl (by decide) ⟨rfl, trivial⟩ rfl (fun _ _ q => by rw [q.2]; rfl) (fun r9 G1 q => ?_)
  obtain ⟨rfl, rfl⟩ := q
  refine hX.run (ft := ftX5) (ct := ctX5) (oc := []) kX5_buildAny_ok ftX5_ok ctX5_ok xnoc [] [16] [] 120 ?_
  refine hX.callS [21] [] (k_putRow l _ 2 (by omega) _ _ _) yX9_putRow_ok lkX5_103 ssX9_putRow ⟨rfl, rfl, by decide, by decide⟩ (kX5_buildAny_ok.at 45 rfl) rfl rfl (by decide) ⟨rfl, trivial⟩ rfl (fun _ _ q => by rw [q.2]; rfl) (fun r9 G1 q => ?_)
  obtain ⟨rfl, rfl⟩ := q
  refine hX.run (ft := ftX5) (ct := ctX5) (oc := []) kX5_buildAny_ok ftX5_ok ctX5_ok xnoc [54] [16] [] 120 ?_
  refine hX.alike (G2 := [.inr (3, [.ref 1, .ref 2, .ref 3, .ref 4, .ref 5, .ref 6, .int (nI n)]), .inl (8, .inl (mks)), .inl (8, .inr (.inr (.inr (.inr (gmap))))), .inl (3, .inr (.inr (.inr (.inr (fmap))))), .inl (3, .inr (.inr (.inr (.inr (tmap))))), .inl (3, .inr (.inl (we))), .inl (2, .inr (.inl (pa))), .inl (3, .inr (.inl (fun i => zl (q 0 i)))), .inl (3, .inr (.inl (fun i => zl (q 1 i)))), .inl (3, .inr (.inl (fun i => zl (q 2 i)))), .inl (3, .inr (.inl (fun i => zl (q 3 i)))), .inl (3, .inr (.inl (fun i => zl (q 4 i)))), .inl (3, .inr (.inl (fun i => zl (q 5 i)))), .inl (3, .inr (.inl (fun i => zl (q 6 i)))), .inl (3, .inr (.inl (fun i => zl (q 7 i)))), .inl (3, .inr (.inl (f0))), .inl (3, .inr (.inl (f1))), .inl (3, .inr (.inl (f2))), .inl (3, .inr (.inl (t0))), .inl (3, .inr (.inl (t1))), .inl (3, .inr (.inl (t2))), .inl (9, .inr (.inl (fun i => zl (q (i / 3) (i % 3)))))]) ?_ ⟨xsame_rf _, xsame_rf _, xsame_rf _, xsame_rf _, xsame_rf _, xsame_rf _, xsame_rf _, xsame_rf _, xsame_rf _, xsame_rf _, xsame_rf _, xsame_rf _, xsame_rf _, xsame_rf _, xsame_rf _, xsame_rf _, xsame_rf _, xsame_rf _, xsame_rf _, xsame_rf _, xsame_rf _, ⟨rfl, fun i hi => ?_⟩, trivial⟩
  rotate_left
  · unfold pr3
    rcases (show i = 0 ∨ i = 1 ∨ i = 2 ∨ i = 3 ∨ i = 4 ∨ i = 5 ∨ i = 6 ∨ i = 7 ∨ i = 8 by omega) with rfl | rfl | rfl | rfl | rfl | rfl | rfl | rfl | rfl <;> rfl
  have jd : jr (det9 (fun i => q (i / 3) (i % 3))) := ab_jr (det9_bd (fun i hi => ab_le (hr.2.2 (i / 3) (i % 3) (by omega) (Nat.mod_lt _ (by omega))) (by decide))) (by decide)
  refine hX.run (ft := ftX5) (ct := ctX5) (oc := []) kX5_buildAny_ok ftX5_ok ctX5_ok xnoc [] [] [] 120 ?_
  refine hX.callS [21] [] (k_determinant l (fun i => q (i / 3) (i % 3))) yX9_determinant_ok lkX5_126 ssX9_determinant ⟨rfl, rfl, by decide, by decide⟩ (kX5_buildAny_ok.at 55 rfl) rfl rfl (by decide) ⟨rfl, trivial⟩ rfl (fun _ _ q => by rw [q.2]) (fun r9 G1 q => ?_)
  obtain ⟨rfl, rfl⟩ := q
  refine hX.run (ft := ftX5) (ct := ctX5) (oc := []) kX5_buildAny_ok ftX5_ok ctX5_ok xnoc [] [] [] 120 ?_
  refine ⟨fun h => ?_, fun h => ?_⟩
  · have g : det9 (fun i => q (i / 3) (i % 3)) = 0 := lce h rfl rfl jd j0
    rw [if_neg (fun q => q.2 g)]
    exact ⟨f0, f1, f2, t0, t1, t2, we, pa, _, rfl, fun q => absurd q (by decide), rfl⟩
  · have g : ¬ det9 (fun i => q (i / 3) (i % 3)) = 0 := lcn h rfl rfl
    rw [if_pos ⟨hb, g⟩]
    exact ⟨f0, f1, f2, t0, t1, t2, we, pa, _, rfl, fun _ i hi => rfl, rfl⟩
def lfx (q : Nat → Nat → Int) : Int := q 1 0 * q 0 2 - q 0 0 * q 1 2
def lfy (q : Nat → Nat → Int) : Int := q 1 1 * q 0 2 - q 0 1 * q 1 2
def ltx (q : Nat → Nat → Int) : Int := q 3 0 * q 2 2 - q 2 0 * q 3 2
def lty (q : Nat → Nat → Int) : Int := q 3 1 * q 2 2 - q 2 1 * q 3 2
def lre (q : Nat → Nat → Int) : Int := ltx q * lfx q + lty q * lfy q
def lot (q : Nat → Nat → Int) : Int := lty q * lfx q - ltx q * lfy q
def lsq (q : Nat → Nat → Int) : Int := lfx q * lfx q + lfy q * lfy q
def clik9 (q : Nat → Nat → Int) : Nat → Int := t9 (lre q * (q 0 2 * q 1 2)) (-(lot q * (q 0 2 * q 1 2))) (q 2 0 * lsq q * q 3 2 - q 1 2 * (lre q * q 0 0 - lot q * q 0 1)) (lot q * (q 0 2 * q 1 2)) (lre q * (q 0 2 * q 1 2)) (q 2 1 * lsq q * q 3 2 - q 1 2 * (lre q * q 0 1 + lot q * q 0 0)) 0 0 (lsq q * q 2 2 * q 3 2)
set_option maxHeartbeats 4000000 in
set_option maxRecDepth 100000 in
theorem k_bLikeness (l : Launch) (n : Nat) (mks : Nat → Int32) (q : Nat → Nat → Int) (f0 f1 f2 t0 t1 t2 we pa out : Nat → Int64) (ss : Nat → Nat) (hr : MR n ss mks q) : xM l yX5_buildLikeness cX5_buildLikeness 26 (some .int) rX5_buildLikeness [.ref 0, .ref 21] [.inr (3, [.ref 1, .ref 2, .ref 3, .ref 4, .ref 5, .ref 6, .int (nI n)]), .inl (8, .inl (mks)), .inl (8, .inr (.inr (.inr (.inr (gmap))))), .inl (3, .inr (.inr (.inr (.inr (fmap))))), .inl (3, .inr (.inr (.inr (.inr (tmap))))), .inl (3, .inr (.inl (we))), .inl (2, .inr (.inl (pa))), .inl (3, .inr (.inl (fun i => zl (q 0 i)))), .inl (3, .inr (.inl (fun i => zl (q 1 i)))), .inl (3, .inr (.inl (fun i => zl (q 2 i)))), .inl (3, .inr (.inl (fun i => zl (q 3 i)))), .inl (3, .inr (.inl (fun i => zl (q 4 i)))), .inl (3, .inr (.inl (fun i => zl (q 5 i)))), .inl (3, .inr (.inl (fun i => zl (q 6 i)))), .inl (3, .inr (.inl (fun i => zl (q 7 i)))), .inl (3, .inr (.inl (f0))), .inl (3, .inr (.inl (f1))), .inl (3, .inr (.inl (f2))), .inl (3, .inr (.inl (t0))), .inl (3, .inr (.inl (t1))), .inl (3, .inr (.inl (t2))), .inl (9, .inr (.inl (out)))] (fun r G => ∃ f0' f1' f2' t0' t1' t2' we' pa' out', r = some (.int (zi (if cNear n ss q 4 = true ∧ ¬ (lfx q = 0 ∧ lfy q = 0) ∧ ¬ (ltx q = 0 ∧ lty q = 0) then 0 else -3))) ∧ ((if cNear n ss q 4 = true ∧ ¬ (lfx q = 0 ∧ lfy q = 0) ∧ ¬ (ltx q = 0 ∧ lty q = 0) then 0 else -3) = 0 → ∀ i, i < 9 → out' i = zl (clik9 q i)) ∧ G = [.inr (3, [.ref 1, .ref 2, .ref 3, .ref 4, .ref 5, .ref 6, .int (nI n)]), .inl (8, .inl (mks)), .inl (8, .inr (.inr (.inr (.inr (gmap))))), .inl (3, .inr (.inr (.inr (.inr (fmap))))), .inl (3, .inr (.inr (.inr (.inr (tmap))))), .inl (3, .inr (.inl (we'))), .inl (2, .inr (.inl (pa'))), .inl (3, .inr (.inl (fun i => zl (q 0 i)))), .inl (3, .inr (.inl (fun i => zl (q 1 i)))), .inl (3, .inr (.inl (fun i => zl (q 2 i)))), .inl (3, .inr (.inl (fun i => zl (q 3 i)))), .inl (3, .inr (.inl (fun i => zl (q 4 i)))), .inl (3, .inr (.inl (fun i => zl (q 5 i)))), .inl (3, .inr (.inl (fun i => zl (q 6 i)))), .inl (3, .inr (.inl (fun i => zl (q 7 i)))), .inl (3, .inr (.inl (f0'))), .inl (3, .inr (.inl (f1'))), .inl (3, .inr (.inl (f2'))), .inl (3, .inr (.inl (t0'))), .inl (3, .inr (.inl (t1'))), .inl (3, .inr (.inl (t2'))), .inl (9, .inr (.inl (out')))]) := by
  refine xM.of (by decide) (Nat.le_of_ble_eq_true rfl) (fun X hX => ?_)
  have no : (if cNear n ss q 4 = true ∧ ¬ (lfx q = 0 ∧ lfy q = 0) ∧ ¬ (ltx q = 0 ∧ lty q = 0) then 0 else -3) = -3 → ∃ f0' f1' f2' t0' t1' t2' we' pa' out', some (Value.int (Int8.ofInt (-3)).toInt32) = some (.int (zi (if cNear n ss q 4 = true ∧ ¬ (lfx q = 0 ∧ lfy q = 0) ∧ ¬ (ltx q = 0 ∧ lty q = 0) then 0 else -3))) ∧ ((if cNear n ss q 4 = true ∧ ¬ (lfx q = 0 ∧ lfy q = 0) ∧ ¬ (ltx q = 0 ∧ lty q = 0) then 0 else -3) = 0 → ∀ i, i < 9 → out' i = zl (clik9 q i)) ∧ ([.inr (3, [.ref 1, .ref 2, .ref 3, .ref 4, .ref 5, .ref 6, .int (nI n)]), .inl (8, .inl (mks)), .inl (8, .inr (.inr (.inr (.inr (gmap))))), .inl (3, .inr (.inr (.inr (.inr (fmap))))), .inl (3, .inr (.inr (.inr (.inr (tmap))))), .inl (3, .inr (.inl (we))), .inl (2, .inr (.inl (pa))), .inl (3, .inr (.inl (fun i => zl (q 0 i)))), .inl (3, .inr (.inl (fun i => zl (q 1 i)))), .inl (3, .inr (.inl (fun i => zl (q 2 i)))), .inl (3, .inr (.inl (fun i => zl (q 3 i)))), .inl (3, .inr (.inl (fun i => zl (q 4 i)))), .inl (3, .inr (.inl (fun i => zl (q 5 i)))), .inl (3, .inr (.inl (fun i => zl (q 6 i)))), .inl (3, .inr (.inl (fun i => zl (q 7 i)))), .inl (3, .inr (.inl (f0))), .inl (3, .inr (.inl (f1))), .inl (3, .inr (.inl (f2))), .inl (3, .inr (.inl (t0))), .inl (3, .inr (.inl (t1))), .inl (3, .inr (.inl (t2))), .inl (9, .inr (.inl (out)))] : List xE) = [.inr (3, [.ref 1, .ref 2, .ref 3, .ref 4, .ref 5, .ref 6, .int (nI n)]), .inl (8, .inl (mks)), .inl (8, .inr (.inr (.inr (.inr (gmap))))), .inl (3, .inr (.inr (.inr (.inr (fmap))))), .inl (3, .inr (.inr (.inr (.inr (tmap))))), .inl (3, .inr (.inl (we'))), .inl (2, .inr (.inl (pa'))), .inl (3, .inr (.inl (fun i => zl (q 0 i)))), .inl (3, .inr (.inl (fun i => zl (q 1 i)))), .inl (3, .inr (.inl (fun i => zl (q 2 i)))), .inl (3, .inr (.inl (fun i => zl (q 3 i)))), .inl (3, .inr (.inl (fun i => zl (q 4 i)))), .inl (3, .inr (.inl (fun i => zl (q 5 i)))), .inl (3, .inr (.inl (fun i => zl (q 6 i)))), .inl (3, .inr (.inl (fun i => zl (q 7 i)))), .inl (3, .inr (.inl (f0'))), .inl (3, .inr (.inl (f1'))), .inl (3, .inr (.inl (f2'))), .inl (3, .inr (.inl (t0'))), .inl (3, .inr (.inl (t1'))), .inl (3, .inr (.inl (t2'))), .inl (9, .inr (.inl (out')))] := by
    intro h
    rw [h]
    exact ⟨f0, f1, f2, t0, t1, t2, we, pa, out, rfl, fun q => absurd q (by decide), rfl⟩
  have j0 : jr 0 := ⟨by omega, by omega⟩
  refine hX.run (ft := ftX5) (ct := ctX5) (oc := []) kX5_buildLikeness_ok ftX5_ok ctX5_ok xnoc [] [] [] 120 ?_
  refine hX.callV0 (rest := []) (k_areNear l n mks q f0 f1 f2 t0 t1 t2 we pa out ss hr 4 (by omega)) yX5_areNear_ok lkX5_87 ivX5_areNear slX5_areNear ⟨rfl, rfl, by decide, by decide⟩ (kX5_buildLikeness_ok.at 2 rfl) rfl rfl (by decide) rfl rfl rfl (fun _ _ q => by rw [q.2]) (fun r9 G1 q => ?_)
  obtain ⟨rfl, rfl⟩ := q
  refine hX.run (ft := ftX5) (ct := ctX5) (oc := []) kX5_buildLikeness_ok ftX5_ok ctX5_ok xnoc [11] [] [] 120 ?_
  refine ⟨fun h => no (if_neg (fun q => by rw [bI_0.mp h] at q; exact Bool.noConfusion q.1)), fun h => ?_⟩
  have hb := bI_t h
  obtain ⟨hn, hs, hw⟩ := near1 hb
  have bq : ∀ k i, k < 4 → i < 3 → ab (q k i) 500 := fun k i hk hi => hr.2.2 k i (by omega) hi
  have jm : ∀ a i b j c k d m, a < 4 → i < 3 → b < 4 → j < 3 → c < 4 → k < 3 → d < 4 → m < 3 → jr (q a i * q b j - q c k * q d m) := fun a i b j c k d m h1 h2 h3 h4 h5 h6 h7 h8 => ab_jr (ab_sub (ab_mul (bq a i h1 h2) (bq b j h3 h4)) (ab_mul (bq c k h5 h6) (bq d m h7 h8))) (by decide)
  have jfx : jr (lfx q) := jm 1 0 0 2 0 0 1 2 (by omega) (by omega) (by omega) (by omega) (by omega) (by omega) (by omega) (by omega)
  have jfy : jr (lfy q) := jm 1 1 0 2 0 1 1 2 (by omega) (by omega) (by omega) (by omega) (by omega) (by omega) (by omega) (by omega)
  have jtx : jr (ltx q) := jm 3 0 2 2 2 0 3 2 (by omega) (by omega) (by omega) (by omega) (by omega) (by omega) (by omega) (by omega)
  have jty : jr (lty q) := jm 3 1 2 2 2 1 3 2 (by omega) (by omega) (by omega) (by omega) (by omega) (by omega) (by omega) (by omega)
  have fin : ∀ w1 w2 w3 w4 : Int64, w1 = zl (lfx q) → w2 = zl (lfy q) → w3 = zl (ltx q) → w4 = zl (lty q) → ¬ (lfx q = 0 ∧ lfy q = 0) → ¬ (ltx q = 0 ∧ lty q = 0) → X 148 [some (.ref 0), some (.ref 21), some (.ref 7), some (.ref 8), some (.ref 9), some (.ref 10), some (.long w1), none, some (.long w2), none, some (.long w3), none, some (.long w4), none, none, none, none, none, none, none, none, none, none, none, none, none] [] [.inr (3, [.ref 1, .ref 2, .ref 3, .ref 4, .ref 5, .ref 6, .int (nI n)]), .inl (8, .inl (mks)), .inl (8, .inr (.inr (.inr (.inr (gmap))))), .inl (3, .inr (.inr (.inr (.inr (fmap))))), .inl (3, .inr (.inr (.inr (.inr (tmap))))), .inl (3, .inr (.inl (we))), .inl (2, .inr (.inl (pa))), .inl (3, .inr (.inl (fun i => zl (q 0 i)))), .inl (3, .inr (.inl (fun i => zl (q 1 i)))), .inl (3, .inr (.inl (fun i => zl (q 2 i)))), .inl (3, .inr (.inl (fun i => zl (q 3 i)))), .inl (3, .inr (.inl (fun i => zl (q 4 i)))), .inl (3, .inr (.inl (fun i => zl (q 5 i)))), .inl (3, .inr (.inl (fun i => zl (q 6 i)))), .inl (3, .inr (.inl (fun i => zl (q 7 i)))), .inl (3, .inr (.inl (f0))), .inl (3, .inr (.inl (f1))), .inl (3, .inr (.inl (f2))), .inl (3, .inr (.inl (t0))), .inl (3, .inr (.inl (t1))), .inl (3, .inr (.inl (t2))), .inl (9, .inr (.inl (out)))] := by
    rintro _ _ _ _ rfl rfl rfl rfl n1 n2
    refine hX.run (ft := ftX5) (ct := ctX5) (oc := []) kX5_buildLikeness_ok ftX5_ok ctX5_ok xnoc [] [] [] 120 ?_
    refine hX.callS [21] [] (k_putLik l _ _ _ _ _ _) yX5_putLikeness_ok lkX5_91 ssX5_putLikeness ⟨rfl, rfl, by decide, by decide⟩ (kX5_buildLikeness_ok.at 287 rfl) rfl rfl (by decide) ⟨rfl, trivial⟩ rfl (fun _ _ q => by rw [q.2]; rfl) (fun r9 G1 q => ?_)
    obtain ⟨rfl, rfl⟩ := q
    refine hX.run (ft := ftX5) (ct := ctX5) (oc := []) kX5_buildLikeness_ok ftX5_ok ctX5_ok xnoc [] [] [] 120 ?_
    rw [if_pos ⟨hb, n1, n2⟩]
    refine ⟨f0, f1, f2, t0, t1, t2, we, pa, _, rfl, fun _ i hi => ?_, rfl⟩
    unfold lik9
    simp only [zl_mul, zl_add, zl_sub, zl_neg]
    rcases (show i = 0 ∨ i = 1 ∨ i = 2 ∨ i = 3 ∨ i = 4 ∨ i = 5 ∨ i = 6 ∨ i = 7 ∨ i = 8 by omega) with rfl | rfl | rfl | rfl | rfl | rfl | rfl | rfl | rfl <;> rfl
  have mid : ∀ w1 w2 w3 w4 : Int64, w1 = zl (lfx q) → w2 = zl (lfy q) → w3 = zl (ltx q) → w4 = zl (lty q) → X 117 [some (.ref 0), some (.ref 21), some (.ref 7), some (.ref 8), some (.ref 9), some (.ref 10), some (.long w1), none, some (.long w2), none, some (.long w3), none, some (.long w4), none, none, none, none, none, none, none, none, none, none, none, none, none] [] [.inr (3, [.ref 1, .ref 2, .ref 3, .ref 4, .ref 5, .ref 6, .int (nI n)]), .inl (8, .inl (mks)), .inl (8, .inr (.inr (.inr (.inr (gmap))))), .inl (3, .inr (.inr (.inr (.inr (fmap))))), .inl (3, .inr (.inr (.inr (.inr (tmap))))), .inl (3, .inr (.inl (we))), .inl (2, .inr (.inl (pa))), .inl (3, .inr (.inl (fun i => zl (q 0 i)))), .inl (3, .inr (.inl (fun i => zl (q 1 i)))), .inl (3, .inr (.inl (fun i => zl (q 2 i)))), .inl (3, .inr (.inl (fun i => zl (q 3 i)))), .inl (3, .inr (.inl (fun i => zl (q 4 i)))), .inl (3, .inr (.inl (fun i => zl (q 5 i)))), .inl (3, .inr (.inl (fun i => zl (q 6 i)))), .inl (3, .inr (.inl (fun i => zl (q 7 i)))), .inl (3, .inr (.inl (f0))), .inl (3, .inr (.inl (f1))), .inl (3, .inr (.inl (f2))), .inl (3, .inr (.inl (t0))), .inl (3, .inr (.inl (t1))), .inl (3, .inr (.inl (t2))), .inl (9, .inr (.inl (out)))] := by
    intro w1 w2 w3 w4 e1 e2 e3 e4
    have sec : ¬ (lfx q = 0 ∧ lfy q = 0) → X 131 [some (.ref 0), some (.ref 21), some (.ref 7), some (.ref 8), some (.ref 9), some (.ref 10), some (.long w1), none, some (.long w2), none, some (.long w3), none, some (.long w4), none, none, none, none, none, none, none, none, none, none, none, none, none] [] [.inr (3, [.ref 1, .ref 2, .ref 3, .ref 4, .ref 5, .ref 6, .int (nI n)]), .inl (8, .inl (mks)), .inl (8, .inr (.inr (.inr (.inr (gmap))))), .inl (3, .inr (.inr (.inr (.inr (fmap))))), .inl (3, .inr (.inr (.inr (.inr (tmap))))), .inl (3, .inr (.inl (we))), .inl (2, .inr (.inl (pa))), .inl (3, .inr (.inl (fun i => zl (q 0 i)))), .inl (3, .inr (.inl (fun i => zl (q 1 i)))), .inl (3, .inr (.inl (fun i => zl (q 2 i)))), .inl (3, .inr (.inl (fun i => zl (q 3 i)))), .inl (3, .inr (.inl (fun i => zl (q 4 i)))), .inl (3, .inr (.inl (fun i => zl (q 5 i)))), .inl (3, .inr (.inl (fun i => zl (q 6 i)))), .inl (3, .inr (.inl (fun i => zl (q 7 i)))), .inl (3, .inr (.inl (f0))), .inl (3, .inr (.inl (f1))), .inl (3, .inr (.inl (f2))), .inl (3, .inr (.inl (t0))), .inl (3, .inr (.inl (t1))), .inl (3, .inr (.inl (t2))), .inl (9, .inr (.inl (out)))] := by
      intro n1
      refine hX.run (ft := ftX5) (ct := ctX5) (oc := []) kX5_buildLikeness_ok ftX5_ok ctX5_ok xnoc [148] [] [] 120 ?_
      refine ⟨fun h => ?_, fun h => fin _ _ _ _ e1 e2 e3 e4 n1 (fun w => (lcn h e3 rfl : ¬ ltx q = 0) w.1)⟩
      have g3 : ltx q = 0 := lce h e3 rfl jtx j0
      refine ⟨fun h => ?_, fun h => fin _ _ _ _ e1 e2 e3 e4 n1 (fun w => (lcn h e4 rfl : ¬ lty q = 0) w.2)⟩
      have g4 : lty q = 0 := lce h e4 rfl jty j0
      exact no (if_neg (fun q => q.2.2 ⟨g3, g4⟩))
    refine hX.run (ft := ftX5) (ct := ctX5) (oc := []) kX5_buildLikeness_ok ftX5_ok ctX5_ok xnoc [131] [] [] 120 ?_
    refine ⟨fun h => ?_, fun h => sec (fun w => (lcn h e1 rfl : ¬ lfx q = 0) w.1)⟩
    have g1 : lfx q = 0 := lce h e1 rfl jfx j0
    refine ⟨fun h => ?_, fun h => sec (fun w => (lcn h e2 rfl : ¬ lfy q = 0) w.2)⟩
    have g2 : lfy q = 0 := lce h e2 rfl jfy j0
    exact no (if_neg (fun q => q.2.1 ⟨g1, g2⟩))
  refine hX.run (ft := ftX5) (ct := ctX5) (oc := []) kX5_buildLikeness_ok ftX5_ok ctX5_ok xnoc [117] [] [] 120 ?_
  exact mid _ _ _ _ (by simp only [zl_mul, zl_sub]; rfl) (by simp only [zl_mul, zl_sub]; rfl) (by simp only [zl_mul, zl_sub]; rfl) (by simp only [zl_mul, zl_sub]; rfl)
def sidF (q : Nat → Nat → Int) (s k : Nat) : Nat → Int := crs (q (s + (k + 1) % 3)) (q (s + (k + 2) % 3))
def affW (q : Nat → Nat → Int) (i : Nat) : Int := q i 2 * q (3 + (i + 1) % 3) 2 * q (3 + (i + 2) % 3) 2
def inl0 (q : Nat → Nat → Int) (s : Nat) : Int := dt3 (crs (q (s + 1)) (q (s + 2))) (q s)
set_option maxHeartbeats 4000000 in
set_option maxRecDepth 100000 in
theorem k_bAffine (l : Launch) (n : Nat) (mks : Nat → Int32) (q : Nat → Nat → Int) (f0 f1 f2 t0 t1 t2 we pa out : Nat → Int64) (ss : Nat → Nat) (hr : MR n ss mks q) : xM l yX5_buildAffine cX5_buildAffine 5 (some .int) rX5_buildAffine [.ref 0, .ref 21] [.inr (3, [.ref 1, .ref 2, .ref 3, .ref 4, .ref 5, .ref 6, .int (nI n)]), .inl (8, .inl (mks)), .inl (8, .inr (.inr (.inr (.inr (gmap))))), .inl (3, .inr (.inr (.inr (.inr (fmap))))), .inl (3, .inr (.inr (.inr (.inr (tmap))))), .inl (3, .inr (.inl (we))), .inl (2, .inr (.inl (pa))), .inl (3, .inr (.inl (fun i => zl (q 0 i)))), .inl (3, .inr (.inl (fun i => zl (q 1 i)))), .inl (3, .inr (.inl (fun i => zl (q 2 i)))), .inl (3, .inr (.inl (fun i => zl (q 3 i)))), .inl (3, .inr (.inl (fun i => zl (q 4 i)))), .inl (3, .inr (.inl (fun i => zl (q 5 i)))), .inl (3, .inr (.inl (fun i => zl (q 6 i)))), .inl (3, .inr (.inl (fun i => zl (q 7 i)))), .inl (3, .inr (.inl (f0))), .inl (3, .inr (.inl (f1))), .inl (3, .inr (.inl (f2))), .inl (3, .inr (.inl (t0))), .inl (3, .inr (.inl (t1))), .inl (3, .inr (.inl (t2))), .inl (9, .inr (.inl (out)))] (fun r G => ∃ f0' f1' f2' t0' t1' t2' we' pa' out', r = some (.int (zi (if cNear n ss q 6 = true ∧ ¬ inl0 q 0 = 0 ∧ ¬ inl0 q 3 = 0 then 0 else -3))) ∧ ((if cNear n ss q 6 = true ∧ ¬ inl0 q 0 = 0 ∧ ¬ inl0 q 3 = 0 then 0 else -3) = 0 → ∀ i, i < 9 → out' i = zl (wgt (affW q) q (sidF q 0) 3 i)) ∧ G = [.inr (3, [.ref 1, .ref 2, .ref 3, .ref 4, .ref 5, .ref 6, .int (nI n)]), .inl (8, .inl (mks)), .inl (8, .inr (.inr (.inr (.inr (gmap))))), .inl (3, .inr (.inr (.inr (.inr (fmap))))), .inl (3, .inr (.inr (.inr (.inr (tmap))))), .inl (3, .inr (.inl (we'))), .inl (2, .inr (.inl (pa'))), .inl (3, .inr (.inl (fun i => zl (q 0 i)))), .inl (3, .inr (.inl (fun i => zl (q 1 i)))), .inl (3, .inr (.inl (fun i => zl (q 2 i)))), .inl (3, .inr (.inl (fun i => zl (q 3 i)))), .inl (3, .inr (.inl (fun i => zl (q 4 i)))), .inl (3, .inr (.inl (fun i => zl (q 5 i)))), .inl (3, .inr (.inl (fun i => zl (q 6 i)))), .inl (3, .inr (.inl (fun i => zl (q 7 i)))), .inl (3, .inr (.inl (f0'))), .inl (3, .inr (.inl (f1'))), .inl (3, .inr (.inl (f2'))), .inl (3, .inr (.inl (t0'))), .inl (3, .inr (.inl (t1'))), .inl (3, .inr (.inl (t2'))), .inl (9, .inr (.inl (out')))]) := by
  refine xM.of (by decide) (Nat.le_of_ble_eq_true rfl) (fun X hX => ?_)
  have no : ∀ f0 f1 f2 t0 t1 t2 : Nat → Int64, (if cNear n ss q 6 = true ∧ ¬ inl0 q 0 = 0 ∧ ¬ inl0 q 3 = 0 then 0 else -3) = -3 → ∃ f0' f1' f2' t0' t1' t2' we' pa' out', some (Value.int (Int8.ofInt (-3)).toInt32) = some (.int (zi (if cNear n ss q 6 = true ∧ ¬ inl0 q 0 = 0 ∧ ¬ inl0 q 3 = 0 then 0 else -3))) ∧ ((if cNear n ss q 6 = true ∧ ¬ inl0 q 0 = 0 ∧ ¬ inl0 q 3 = 0 then 0 else -3) = 0 → ∀ i, i < 9 → out' i = zl (wgt (affW q) q (sidF q 0) 3 i)) ∧ ([.inr (3, [.ref 1, .ref 2, .ref 3, .ref 4, .ref 5, .ref 6, .int (nI n)]), .inl (8, .inl (mks)), .inl (8, .inr (.inr (.inr (.inr (gmap))))), .inl (3, .inr (.inr (.inr (.inr (fmap))))), .inl (3, .inr (.inr (.inr (.inr (tmap))))), .inl (3, .inr (.inl (we))), .inl (2, .inr (.inl (pa))), .inl (3, .inr (.inl (fun i => zl (q 0 i)))), .inl (3, .inr (.inl (fun i => zl (q 1 i)))), .inl (3, .inr (.inl (fun i => zl (q 2 i)))), .inl (3, .inr (.inl (fun i => zl (q 3 i)))), .inl (3, .inr (.inl (fun i => zl (q 4 i)))), .inl (3, .inr (.inl (fun i => zl (q 5 i)))), .inl (3, .inr (.inl (fun i => zl (q 6 i)))), .inl (3, .inr (.inl (fun i => zl (q 7 i)))), .inl (3, .inr (.inl (f0))), .inl (3, .inr (.inl (f1))), .inl (3, .inr (.inl (f2))), .inl (3, .inr (.inl (t0))), .inl (3, .inr (.inl (t1))), .inl (3, .inr (.inl (t2))), .inl (9, .inr (.inl (out)))] : List xE) = [.inr (3, [.ref 1, .ref 2, .ref 3, .ref 4, .ref 5, .ref 6, .int (nI n)]), .inl (8, .inl (mks)), .inl (8, .inr (.inr (.inr (.inr (gmap))))), .inl (3, .inr (.inr (.inr (.inr (fmap))))), .inl (3, .inr (.inr (.inr (.inr (tmap))))), .inl (3, .inr (.inl (we'))), .inl (2, .inr (.inl (pa'))), .inl (3, .inr (.inl (fun i => zl (q 0 i)))), .inl (3, .inr (.inl (fun i => zl (q 1 i)))), .inl (3, .inr (.inl (fun i => zl (q 2 i)))), .inl (3, .inr (.inl (fun i => zl (q 3 i)))), .inl (3, .inr (.inl (fun i => zl (q 4 i)))), .inl (3, .inr (.inl (fun i => zl (q 5 i)))), .inl (3, .inr (.inl (fun i => zl (q 6 i)))), .inl (3, .inr (.inl (fun i => zl (q 7 i)))), .inl (3, .inr (.inl (f0'))), .inl (3, .inr (.inl (f1'))), .inl (3, .inr (.inl (f2'))), .inl (3, .inr (.inl (t0'))), .inl (3, .inr (.inl (t1'))), .inl (3, .inr (.inl (t2'))), .inl (9, .inr (.inl (out')))] := by
    intro f0 f1 f2 t0 t1 t2 h
    rw [h]
    exact ⟨f0, f1, f2, t0, t1, t2, we, pa, out, rfl, fun q => absurd q (by decide), rfl⟩
  refine hX.run (ft := ftX5) (ct := ctX5) (oc := []) kX5_buildAffine_ok ftX5_ok ctX5_ok xnoc [] [] [] 120 ?_
  refine hX.callV0 (rest := []) (k_areNear l n mks q f0 f1 f2 t0 t1 t2 we pa out ss hr 6 (by omega)) yX5_areNear_ok lkX5_87 ivX5_areNear slX5_areNear ⟨rfl, rfl, by decide, by decide⟩ (kX5_buildAffine_ok.at 3 rfl) rfl rfl (by decide) rfl rfl rfl (fun _ _ q => by rw [q.2]) (fun r9 G1 q => ?_)
  obtain ⟨rfl, rfl⟩ := q
  refine hX.run (ft := ftX5) (ct := ctX5) (oc := []) kX5_buildAffine_ok ftX5_ok ctX5_ok xnoc [] [] [] 120 ?_
  refine ⟨fun h => no _ _ _ _ _ _ (if_neg (fun q => by rw [bI_0.mp h] at q; exact Bool.noConfusion q.1)), fun h => ?_⟩
  have hb := bI_t h
  obtain ⟨hn, hs, hw⟩ := near1 hb
  refine hX.callV0 (rest := []) (k_sides0 l n mks q (f0) (f1) (f2) (t0) (t1) (t2) we pa out (fun k i hk hi => hr.2.2 k i (by omega) hi)) yX5_findSides_ok lkX5_109 ivX5_findSides slX5_findSides ⟨rfl, rfl, by decide, by decide⟩ (kX5_buildAffine_ok.at 15 rfl) rfl rfl (by decide) rfl rfl rfl (fun _ _ q => by rw [q.2]; rfl) (fun r9 G1 q => ?_)
  obtain ⟨rfl, rfl⟩ := q
  refine hX.run (ft := ftX5) (ct := ctX5) (oc := []) kX5_buildAffine_ok ftX5_ok ctX5_ok xnoc [] [] [] 120 ?_
  refine ⟨fun h => no _ _ _ _ _ _ (if_neg (fun q => q.2.1 (nb0 (bI_0.mp h)))), fun h => ?_⟩
  have g1 : ¬ inl0 q 0 = 0 := nb1 (bI_t h)
  refine hX.callV0 (rest := []) (k_sides3 l n mks q (fun i => zl (crs (q 1) (q 2) i)) (fun i => zl (crs (q 2) (q 0) i)) (fun i => zl (crs (q 0) (q 1) i)) (t0) (t1) (t2) we pa out (fun k i hk hi => hr.2.2 k i (by omega) hi)) yX5_findSides_ok lkX5_109 ivX5_findSides slX5_findSides ⟨rfl, rfl, by decide, by decide⟩ (kX5_buildAffine_ok.at 27 rfl) rfl rfl (by decide) rfl rfl rfl (fun _ _ q => by rw [q.2]; rfl) (fun r9 G1 q => ?_)
  obtain ⟨rfl, rfl⟩ := q
  refine hX.run (ft := ftX5) (ct := ctX5) (oc := []) kX5_buildAffine_ok ftX5_ok ctX5_ok xnoc [38] [] [] 120 ?_
  refine ⟨fun h => no _ _ _ _ _ _ (if_neg (fun q => q.2.2 (nb0 (bI_0.mp h)))), fun h => ?_⟩
  have g2 : ¬ inl0 q 3 = 0 := nb1 (bI_t h)
  refine hX.run (ft := ftX5) (ct := ctX5) (oc := []) kX5_buildAffine_ok ftX5_ok ctX5_ok xnoc [99] [40] [] 300 ?_
  refine hX.alike (G2 := [.inr (3, [.ref 1, .ref 2, .ref 3, .ref 4, .ref 5, .ref 6, .int (nI n)]), .inl (8, .inl (mks)), .inl (8, .inr (.inr (.inr (.inr (gmap))))), .inl (3, .inr (.inr (.inr (.inr (fmap))))), .inl (3, .inr (.inr (.inr (.inr (tmap))))), .inl (3, .inr (.inl (fun i => zl (affW q i)))), .inl (2, .inr (.inl (pa))), .inl (3, .inr (.inl (fun i => zl (q 0 i)))), .inl (3, .inr (.inl (fun i => zl (q 1 i)))), .inl (3, .inr (.inl (fun i => zl (q 2 i)))), .inl (3, .inr (.inl (fun i => zl (q 3 i)))), .inl (3, .inr (.inl (fun i => zl (q 4 i)))), .inl (3, .inr (.inl (fun i => zl (q 5 i)))), .inl (3, .inr (.inl (fun i => zl (q 6 i)))), .inl (3, .inr (.inl (fun i => zl (q 7 i)))), .inl (3, .inr (.inl (fun i => zl (sidF q 0 0 i)))), .inl (3, .inr (.inl (fun i => zl (sidF q 0 1 i)))), .inl (3, .inr (.inl (fun i => zl (sidF q 0 2 i)))), .inl (3, .inr (.inl (fun i => zl (crs (q 4) (q 5) i)))), .inl (3, .inr (.inl (fun i => zl (crs (q 5) (q 3) i)))), .inl (3, .inr (.inl (fun i => zl (crs (q 3) (q 4) i)))), .inl (9, .inr (.inl (out)))]) ?_ ⟨xsame_rf _, xsame_rf _, xsame_rf _, xsame_rf _, xsame_rf _, ⟨rfl, fun i hi => ?_⟩, xsame_rf _, xsame_rf _, xsame_rf _, xsame_rf _, xsame_rf _, xsame_rf _, xsame_rf _, xsame_rf _, xsame_rf _, xsame_rf _, xsame_rf _, xsame_rf _, xsame_rf _, xsame_rf _, xsame_rf _, xsame_rf _, trivial⟩
  rotate_left
  · unfold vp_updL
    simp only [zl_mul]
    rcases (show i = 0 ∨ i = 1 ∨ i = 2 by omega) with rfl | rfl | rfl <;> rfl
  refine hX.run (ft := ftX5) (ct := ctX5) (oc := []) kX5_buildAffine_ok ftX5_ok ctX5_ok xnoc [] [] [] 120 ?_
  refine hX.callV0 (rest := []) (k_weighted3 l n mks q (sidF q 0) (affW q) _ _ _ pa out) yX5_putWeighted_ok lkX5_113 ivX5_putWeighted slX5_putWeighted ⟨rfl, rfl, by decide, by decide⟩ (kX5_buildAffine_ok.at 102 rfl) rfl rfl (by decide) rfl rfl rfl (fun _ _ q => by rw [q.2]; rfl) (fun r9 G1 q => ?_)
  obtain ⟨rfl, rfl⟩ := q
  refine hX.run (ft := ftX5) (ct := ctX5) (oc := []) kX5_buildAffine_ok ftX5_ok ctX5_ok xnoc [] [] [] 120 ?_
  rw [if_pos ⟨hb, g1, g2⟩]
  exact ⟨_, _, _, _, _, _, _, _, _, rfl, fun _ i hi => rfl, rfl⟩
def v2 (a b : Int) (i : Nat) : Int := if i = 0 then a else b
def frW (q F : Nat → Nat → Int) (i : Nat) : Int := dt3 (F i) (q 3)
def toW (q H : Nat → Nat → Int) (i : Nat) : Int := dt3 (H i) (q 7)
def pr1 (q F H : Nat → Nat → Int) : Nat → Int := v2 (toW q H 0 * frW q F 1) (toW q H 1 * frW q F 0)
def pr2 (q F H : Nat → Nat → Int) : Nat → Int := v2 (toW q H 1 * frW q F 2) (toW q H 2 * frW q F 1)
def wt3 (q F H : Nat → Nat → Int) : Nat → Int := vec3 (lst (pr1 q F H) 2 0 * lst (pr2 q F H) 2 0) (lst (pr1 q F H) 2 1 * lst (pr2 q F H) 2 0) (lst (pr1 q F H) 2 1 * lst (pr2 q F H) 2 1)
def fwB (q F H : Nat → Nat → Int) : Bool := fitM 750000 (pr1 q F H) 2 2 && (fitM 750000 (pr2 q F H) 2 2 && fitM 750000 (wt3 q F H) 3 3)
theorem fitM_le {W : Int} {z : Nat → Int} {n : Nat} : ∀ {k : Nat}, fitM W z n k = true → ∀ i, i < k → -W ≤ lst z n i ∧ lst z n i ≤ W
  | 0, _, i, h => by omega
  | k + 1, h, i, hi => by
    unfold fitM at h
    simp only [Bool.and_eq_true, Bool.not_eq_true', decide_eq_false_iff_not] at h
    by_cases e : i = k
    · subst e; omega
    · exact fitM_le h.1 i (by omega)
theorem gN_ne {z : Nat → Int} {n i : Nat} (hi : i < n) (h : z i ≠ 0) : gN z n ≠ 0 := fun q => h (gN_zero q i hi)
theorem lst_ne {z : Nat → Int} {n i : Nat} (hi : i < n) (h : z i ≠ 0) : lst z n i ≠ 0 := fun q => h (by have := lst_mul (z := z) (n := n) hi; rw [q, Int.mul_zero] at this; exact this)
set_option maxHeartbeats 4000000 in
set_option maxRecDepth 100000 in
theorem k_weights (l : Launch) (n : Nat) (mks : Nat → Int32) (q F H : Nat → Nat → Int) (we pa out : Nat → Int64) (hf : ∀ i, i < 3 → ab (frW q F i) 750000000) (ht : ∀ i, i < 3 → ab (toW q H i) 750000000) (nf : ∀ i, i < 3 → frW q F i ≠ 0) (nt : ∀ i, i < 3 → toW q H i ≠ 0) : xM l yX5_findWeights cX5_findWeights 17 (some .boolean) rX5_findWeights [.ref 0] [.inr (3, [.ref 1, .ref 2, .ref 3, .ref 4, .ref 5, .ref 6, .int (nI n)]), .inl (8, .inl (mks)), .inl (8, .inr (.inr (.inr (.inr (gmap))))), .inl (3, .inr (.inr (.inr (.inr (fmap))))), .inl (3, .inr (.inr (.inr (.inr (tmap))))), .inl (3, .inr (.inl (we))), .inl (2, .inr (.inl (pa))), .inl (3, .inr (.inl (fun i => zl (q 0 i)))), .inl (3, .inr (.inl (fun i => zl (q 1 i)))), .inl (3, .inr (.inl (fun i => zl (q 2 i)))), .inl (3, .inr (.inl (fun i => zl (q 3 i)))), .inl (3, .inr (.inl (fun i => zl (q 4 i)))), .inl (3, .inr (.inl (fun i => zl (q 5 i)))), .inl (3, .inr (.inl (fun i => zl (q 6 i)))), .inl (3, .inr (.inl (fun i => zl (q 7 i)))), .inl (3, .inr (.inl (fun i => zl (F 0 i)))), .inl (3, .inr (.inl (fun i => zl (F 1 i)))), .inl (3, .inr (.inl (fun i => zl (F 2 i)))), .inl (3, .inr (.inl (fun i => zl (H 0 i)))), .inl (3, .inr (.inl (fun i => zl (H 1 i)))), .inl (3, .inr (.inl (fun i => zl (H 2 i)))), .inl (9, .inr (.inl (out)))] (fun r G => ∃ we' pa', r = some (.int (bI (fwB q F H))) ∧ (fwB q F H = true → we' = fun i => zl (lst (wt3 q F H) 3 i)) ∧ G = [.inr (3, [.ref 1, .ref 2, .ref 3, .ref 4, .ref 5, .ref 6, .int (nI n)]), .inl (8, .inl (mks)), .inl (8, .inr (.inr (.inr (.inr (gmap))))), .inl (3, .inr (.inr (.inr (.inr (fmap))))), .inl (3, .inr (.inr (.inr (.inr (tmap))))), .inl (3, .inr (.inl (we'))), .inl (2, .inr (.inl (pa'))), .inl (3, .inr (.inl (fun i => zl (q 0 i)))), .inl (3, .inr (.inl (fun i => zl (q 1 i)))), .inl (3, .inr (.inl (fun i => zl (q 2 i)))), .inl (3, .inr (.inl (fun i => zl (q 3 i)))), .inl (3, .inr (.inl (fun i => zl (q 4 i)))), .inl (3, .inr (.inl (fun i => zl (q 5 i)))), .inl (3, .inr (.inl (fun i => zl (q 6 i)))), .inl (3, .inr (.inl (fun i => zl (q 7 i)))), .inl (3, .inr (.inl (fun i => zl (F 0 i)))), .inl (3, .inr (.inl (fun i => zl (F 1 i)))), .inl (3, .inr (.inl (fun i => zl (F 2 i)))), .inl (3, .inr (.inl (fun i => zl (H 0 i)))), .inl (3, .inr (.inl (fun i => zl (H 1 i)))), .inl (3, .inr (.inl (fun i => zl (H 2 i)))), .inl (9, .inr (.inl (out)))]) := by
  refine xM.of (by decide) (Nat.le_of_ble_eq_true rfl) (fun X hX => ?_)
  have no : ∀ we pa : Nat → Int64, fwB q F H = false → narrow .boolean (.int (Int32.ofInt 0)) = .int (Int32.ofInt 0) ∧ ∃ we' pa', some (Value.int (Int32.ofInt 0)) = some (.int (bI (fwB q F H))) ∧ (fwB q F H = true → we' = fun i => zl (lst (wt3 q F H) 3 i)) ∧ ([.inr (3, [.ref 1, .ref 2, .ref 3, .ref 4, .ref 5, .ref 6, .int (nI n)]), .inl (8, .inl (mks)), .inl (8, .inr (.inr (.inr (.inr (gmap))))), .inl (3, .inr (.inr (.inr (.inr (fmap))))), .inl (3, .inr (.inr (.inr (.inr (tmap))))), .inl (3, .inr (.inl (we))), .inl (2, .inr (.inl (pa))), .inl (3, .inr (.inl (fun i => zl (q 0 i)))), .inl (3, .inr (.inl (fun i => zl (q 1 i)))), .inl (3, .inr (.inl (fun i => zl (q 2 i)))), .inl (3, .inr (.inl (fun i => zl (q 3 i)))), .inl (3, .inr (.inl (fun i => zl (q 4 i)))), .inl (3, .inr (.inl (fun i => zl (q 5 i)))), .inl (3, .inr (.inl (fun i => zl (q 6 i)))), .inl (3, .inr (.inl (fun i => zl (q 7 i)))), .inl (3, .inr (.inl (fun i => zl (F 0 i)))), .inl (3, .inr (.inl (fun i => zl (F 1 i)))), .inl (3, .inr (.inl (fun i => zl (F 2 i)))), .inl (3, .inr (.inl (fun i => zl (H 0 i)))), .inl (3, .inr (.inl (fun i => zl (H 1 i)))), .inl (3, .inr (.inl (fun i => zl (H 2 i)))), .inl (9, .inr (.inl (out)))] : List xE) = [.inr (3, [.ref 1, .ref 2, .ref 3, .ref 4, .ref 5, .ref 6, .int (nI n)]), .inl (8, .inl (mks)), .inl (8, .inr (.inr (.inr (.inr (gmap))))), .inl (3, .inr (.inr (.inr (.inr (fmap))))), .inl (3, .inr (.inr (.inr (.inr (tmap))))), .inl (3, .inr (.inl (we'))), .inl (2, .inr (.inl (pa'))), .inl (3, .inr (.inl (fun i => zl (q 0 i)))), .inl (3, .inr (.inl (fun i => zl (q 1 i)))), .inl (3, .inr (.inl (fun i => zl (q 2 i)))), .inl (3, .inr (.inl (fun i => zl (q 3 i)))), .inl (3, .inr (.inl (fun i => zl (q 4 i)))), .inl (3, .inr (.inl (fun i => zl (q 5 i)))), .inl (3, .inr (.inl (fun i => zl (q 6 i)))), .inl (3, .inr (.inl (fun i => zl (q 7 i)))), .inl (3, .inr (.inl (fun i => zl (F 0 i)))), .inl (3, .inr (.inl (fun i => zl (F 1 i)))), .inl (3, .inr (.inl (fun i => zl (F 2 i)))), .inl (3, .inr (.inl (fun i => zl (H 0 i)))), .inl (3, .inr (.inl (fun i => zl (H 1 i)))), .inl (3, .inr (.inl (fun i => zl (H 2 i)))), .inl (9, .inr (.inl (out)))] := by
    intro we pa h
    rw [h]
    exact ⟨rfl, we, pa, rfl, fun q => Bool.noConfusion q, rfl⟩
  have bp : ∀ i j, i < 3 → j < 3 → jr (toW q H i * frW q F j) := fun i j hi hj => ab_jr (ab_mul (ht i hi) (hf j hj)) (by decide)
  have j1 : ∀ i, i < 2 → jr (pr1 q F H i) := fun i hi => by
    unfold pr1 v2
    split
    · exact bp 0 1 (by omega) (by omega)
    · exact bp 1 0 (by omega) (by omega)
  have j2 : ∀ i, i < 2 → jr (pr2 q F H i) := fun i hi => by
    unfold pr2 v2
    split
    · exact bp 1 2 (by omega) (by omega)
    · exact bp 2 1 (by omega) (by omega)
  have n1 : gN (pr1 q F H) 2 ≠ 0 := gN_ne (i := 0) (by omega) (Int.mul_ne_zero (nt 0 (by omega)) (nf 1 (by omega)))
  have n2 : gN (pr2 q F H) 2 ≠ 0 := gN_ne (i := 0) (by omega) (Int.mul_ne_zero (nt 1 (by omega)) (nf 2 (by omega)))
  have late : fitM 750000 (pr1 q F H) 2 2 = true → fitM 750000 (pr2 q F H) 2 2 = true → X 190 [some (.ref 0), some (.long (zl (frW q F 0))), none, some (.long (zl (frW q F 1))), none, some (.long (zl (frW q F 2))), none, some (.long (zl (toW q H 0))), none, some (.long (zl (toW q H 1))), none, some (.long (zl (toW q H 2))), none, some (.long (zl (lst (pr1 q F H) 2 0))), none, some (.long (zl (lst (pr1 q F H) 2 1))), none] [] [.inr (3, [.ref 1, .ref 2, .ref 3, .ref 4, .ref 5, .ref 6, .int (nI n)]), .inl (8, .inl (mks)), .inl (8, .inr (.inr (.inr (.inr (gmap))))), .inl (3, .inr (.inr (.inr (.inr (fmap))))), .inl (3, .inr (.inr (.inr (.inr (tmap))))), .inl (3, .inr (.inl (we))), .inl (2, .inr (.inl (fun i => zl (lst (pr2 q F H) 2 i)))), .inl (3, .inr (.inl (fun i => zl (q 0 i)))), .inl (3, .inr (.inl (fun i => zl (q 1 i)))), .inl (3, .inr (.inl (fun i => zl (q 2 i)))), .inl (3, .inr (.inl (fun i => zl (q 3 i)))), .inl (3, .inr (.inl (fun i => zl (q 4 i)))), .inl (3, .inr (.inl (fun i => zl (q 5 i)))), .inl (3, .inr (.inl (fun i => zl (q 6 i)))), .inl (3, .inr (.inl (fun i => zl (q 7 i)))), .inl (3, .inr (.inl (fun i => zl (F 0 i)))), .inl (3, .inr (.inl (fun i => zl (F 1 i)))), .inl (3, .inr (.inl (fun i => zl (F 2 i)))), .inl (3, .inr (.inl (fun i => zl (H 0 i)))), .inl (3, .inr (.inl (fun i => zl (H 1 i)))), .inl (3, .inr (.inl (fun i => zl (H 2 i)))), .inl (9, .inr (.inl (out)))] := by
    intro e1 e2
    have b1 := fitM_le e1
    have b2 := fitM_le e2
    have bb : ∀ i j, i < 2 → j < 2 → jr (lst (pr1 q F H) 2 i * lst (pr2 q F H) 2 j) := fun i j hi hj => ab_jr (ab_mul (A := 750000) (B := 750000) (b1 i hi) (b2 j hj)) (by decide)
    have j3 : ∀ i, i < 3 → jr (wt3 q F H i) := fun i hi => by
      rcases (show i = 0 ∨ i = 1 ∨ i = 2 by omega) with rfl | rfl | rfl
      · exact bb 0 0 (by omega) (by omega)
      · exact bb 1 0 (by omega) (by omega)
      · exact bb 1 1 (by omega) (by omega)
    have n3 : gN (wt3 q F H) 3 ≠ 0 := gN_ne (i := 0) (by omega) (Int.mul_ne_zero (lst_ne (by omega) (Int.mul_ne_zero (nt 0 (by omega)) (nf 1 (by omega)))) (lst_ne (by omega) (Int.mul_ne_zero (nt 1 (by omega)) (nf 2 (by omega)))))
    refine hX.run (ft := ftX5) (ct := ctX5) (oc := []) kX5_findWeights_ok ftX5_ok ctX5_ok xnoc [235] [] [] 120 ?_
    refine hX.alike (G2 := [.inr (3, [.ref 1, .ref 2, .ref 3, .ref 4, .ref 5, .ref 6, .int (nI n)]), .inl (8, .inl (mks)), .inl (8, .inr (.inr (.inr (.inr (gmap))))), .inl (3, .inr (.inr (.inr (.inr (fmap))))), .inl (3, .inr (.inr (.inr (.inr (tmap))))), .inl (3, .inr (.inl (fun i => zl (wt3 q F H i)))), .inl (2, .inr (.inl (fun i => zl (lst (pr2 q F H) 2 i)))), .inl (3, .inr (.inl (fun i => zl (q 0 i)))), .inl (3, .inr (.inl (fun i => zl (q 1 i)))), .inl (3, .inr (.inl (fun i => zl (q 2 i)))), .inl (3, .inr (.inl (fun i => zl (q 3 i)))), .inl (3, .inr (.inl (fun i => zl (q 4 i)))), .inl (3, .inr (.inl (fun i => zl (q 5 i)))), .inl (3, .inr (.inl (fun i => zl (q 6 i)))), .inl (3, .inr (.inl (fun i => zl (q 7 i)))), .inl (3, .inr (.inl (fun i => zl (F 0 i)))), .inl (3, .inr (.inl (fun i => zl (F 1 i)))), .inl (3, .inr (.inl (fun i => zl (F 2 i)))), .inl (3, .inr (.inl (fun i => zl (H 0 i)))), .inl (3, .inr (.inl (fun i => zl (H 1 i)))), .inl (3, .inr (.inl (fun i => zl (H 2 i)))), .inl (9, .inr (.inl (out)))]) ?_ ⟨xsame_rf _, xsame_rf _, xsame_rf _, xsame_rf _, xsame_rf _, ⟨rfl, fun i hi => ?_⟩, xsame_rf _, xsame_rf _, xsame_rf _, xsame_rf _, xsame_rf _, xsame_rf _, xsame_rf _, xsame_rf _, xsame_rf _, xsame_rf _, xsame_rf _, xsame_rf _, xsame_rf _, xsame_rf _, xsame_rf _, xsame_rf _, trivial⟩
    rotate_left
    · unfold vp_updL
      simp only [zl_mul]
      rcases (show i = 0 ∨ i = 1 ∨ i = 2 by omega) with rfl | rfl | rfl <;> rfl
    refine hX.run (ft := ftX5) (ct := ctX5) (oc := []) kX5_findWeights_ok ftX5_ok ctX5_ok xnoc [] [] [] 120 ?_
    refine hX.callS [5] [] (k_reduce l 3 (by omega) 750000 (by exact ⟨by omega, by omega⟩) (wt3 q F H) j3 n3) yX3_reduce_ok lkX5_136 ssX3_reduce ⟨rfl, rfl, by decide, by decide⟩ (kX5_findWeights_ok.at 242 rfl) rfl rfl (by decide) ⟨rfl, trivial⟩ rfl (fun _ _ q => by rw [q.2]; rfl) (fun r9 G1 q => ?_)
    obtain ⟨rfl, rfl⟩ := q
    refine hX.run (ft := ftX5) (ct := ctX5) (oc := []) kX5_findWeights_ok ftX5_ok ctX5_ok xnoc [] [] [] 120 ?_
    have ef : fwB q F H = fitM 750000 (wt3 q F H) 3 3 := by unfold fwB; rw [e1, e2]; rfl
    rw [ef]
    exact ⟨bI_nar _, _, _, rfl, fun _ => rfl, rfl⟩
  have mid : fitM 750000 (pr1 q F H) 2 2 = true → X 138 [some (.ref 0), some (.long (zl (frW q F 0))), none, some (.long (zl (frW q F 1))), none, some (.long (zl (frW q F 2))), none, some (.long (zl (toW q H 0))), none, some (.long (zl (toW q H 1))), none, some (.long (zl (toW q H 2))), none, none, none, none, none] [] [.inr (3, [.ref 1, .ref 2, .ref 3, .ref 4, .ref 5, .ref 6, .int (nI n)]), .inl (8, .inl (mks)), .inl (8, .inr (.inr (.inr (.inr (gmap))))), .inl (3, .inr (.inr (.inr (.inr (fmap))))), .inl (3, .inr (.inr (.inr (.inr (tmap))))), .inl (3, .inr (.inl (we))), .inl (2, .inr (.inl (fun i => zl (lst (pr1 q F H) 2 i)))), .inl (3, .inr (.inl (fun i => zl (q 0 i)))), .inl (3, .inr (.inl (fun i => zl (q 1 i)))), .inl (3, .inr (.inl (fun i => zl (q 2 i)))), .inl (3, .inr (.inl (fun i => zl (q 3 i)))), .inl (3, .inr (.inl (fun i => zl (q 4 i)))), .inl (3, .inr (.inl (fun i => zl (q 5 i)))), .inl (3, .inr (.inl (fun i => zl (q 6 i)))), .inl (3, .inr (.inl (fun i => zl (q 7 i)))), .inl (3, .inr (.inl (fun i => zl (F 0 i)))), .inl (3, .inr (.inl (fun i => zl (F 1 i)))), .inl (3, .inr (.inl (fun i => zl (F 2 i)))), .inl (3, .inr (.inl (fun i => zl (H 0 i)))), .inl (3, .inr (.inl (fun i => zl (H 1 i)))), .inl (3, .inr (.inl (fun i => zl (H 2 i)))), .inl (9, .inr (.inl (out)))] := by
    intro e1
    refine hX.run (ft := ftX5) (ct := ctX5) (oc := []) kX5_findWeights_ok ftX5_ok ctX5_ok xnoc [175] [] [] 120 ?_
    refine hX.alike (G2 := [.inr (3, [.ref 1, .ref 2, .ref 3, .ref 4, .ref 5, .ref 6, .int (nI n)]), .inl (8, .inl (mks)), .inl (8, .inr (.inr (.inr (.inr (gmap))))), .inl (3, .inr (.inr (.inr (.inr (fmap))))), .inl (3, .inr (.inr (.inr (.inr (tmap))))), .inl (3, .inr (.inl (we))), .inl (2, .inr (.inl (fun i => zl (pr2 q F H i)))), .inl (3, .inr (.inl (fun i => zl (q 0 i)))), .inl (3, .inr (.inl (fun i => zl (q 1 i)))), .inl (3, .inr (.inl (fun i => zl (q 2 i)))), .inl (3, .inr (.inl (fun i => zl (q 3 i)))), .inl (3, .inr (.inl (fun i => zl (q 4 i)))), .inl (3, .inr (.inl (fun i => zl (q 5 i)))), .inl (3, .inr (.inl (fun i => zl (q 6 i)))), .inl (3, .inr (.inl (fun i => zl (q 7 i)))), .inl (3, .inr (.inl (fun i => zl (F 0 i)))), .inl (3, .inr (.inl (fun i => zl (F 1 i)))), .inl (3, .inr (.inl (fun i => zl (F 2 i)))), .inl (3, .inr (.inl (fun i => zl (H 0 i)))), .inl (3, .inr (.inl (fun i => zl (H 1 i)))), .inl (3, .inr (.inl (fun i => zl (H 2 i)))), .inl (9, .inr (.inl (out)))]) ?_ ⟨xsame_rf _, xsame_rf _, xsame_rf _, xsame_rf _, xsame_rf _, xsame_rf _, ⟨rfl, fun i hi => ?_⟩, xsame_rf _, xsame_rf _, xsame_rf _, xsame_rf _, xsame_rf _, xsame_rf _, xsame_rf _, xsame_rf _, xsame_rf _, xsame_rf _, xsame_rf _, xsame_rf _, xsame_rf _, xsame_rf _, xsame_rf _, trivial⟩
    rotate_left
    · unfold vp_updL
      simp only [zl_mul]
      rcases (show i = 0 ∨ i = 1 by omega) with rfl | rfl <;> rfl
    refine hX.run (ft := ftX5) (ct := ctX5) (oc := []) kX5_findWeights_ok ftX5_ok ctX5_ok xnoc [] [] [] 120 ?_
    refine hX.callS [6] [] (k_reduce l 2 (by omega) 750000 (by exact ⟨by omega, by omega⟩) (pr2 q F H) j2 n2) yX3_reduce_ok lkX5_136 ssX3_reduce ⟨rfl, rfl, by decide, by decide⟩ (kX5_findWeights_ok.at 182 rfl) rfl rfl (by decide) ⟨rfl, trivial⟩ rfl (fun _ _ q => by rw [q.2]; rfl) (fun r9 G1 q => ?_)
    obtain ⟨rfl, rfl⟩ := q
    refine hX.run (ft := ftX5) (ct := ctX5) (oc := []) kX5_findWeights_ok ftX5_ok ctX5_ok xnoc [190] [] [] 120 ?_
    refine ⟨fun h => no _ _ (by unfold fwB; rw [bI_0.mp h, Bool.false_and, Bool.and_false]), fun h => late e1 (bI_t h)⟩
  have start : X 103 [some (.ref 0), some (.long (zl (frW q F 0))), none, some (.long (zl (frW q F 1))), none, some (.long (zl (frW q F 2))), none, some (.long (zl (toW q H 0))), none, some (.long (zl (toW q H 1))), none, some (.long (zl (toW q H 2))), none, none, none, none, none] [] [.inr (3, [.ref 1, .ref 2, .ref 3, .ref 4, .ref 5, .ref 6, .int (nI n)]), .inl (8, .inl (mks)), .inl (8, .inr (.inr (.inr (.inr (gmap))))), .inl (3, .inr (.inr (.inr (.inr (fmap))))), .inl (3, .inr (.inr (.inr (.inr (tmap))))), .inl (3, .inr (.inl (we))), .inl (2, .inr (.inl (pa))), .inl (3, .inr (.inl (fun i => zl (q 0 i)))), .inl (3, .inr (.inl (fun i => zl (q 1 i)))), .inl (3, .inr (.inl (fun i => zl (q 2 i)))), .inl (3, .inr (.inl (fun i => zl (q 3 i)))), .inl (3, .inr (.inl (fun i => zl (q 4 i)))), .inl (3, .inr (.inl (fun i => zl (q 5 i)))), .inl (3, .inr (.inl (fun i => zl (q 6 i)))), .inl (3, .inr (.inl (fun i => zl (q 7 i)))), .inl (3, .inr (.inl (fun i => zl (F 0 i)))), .inl (3, .inr (.inl (fun i => zl (F 1 i)))), .inl (3, .inr (.inl (fun i => zl (F 2 i)))), .inl (3, .inr (.inl (fun i => zl (H 0 i)))), .inl (3, .inr (.inl (fun i => zl (H 1 i)))), .inl (3, .inr (.inl (fun i => zl (H 2 i)))), .inl (9, .inr (.inl (out)))] := by
    refine hX.run (ft := ftX5) (ct := ctX5) (oc := []) kX5_findWeights_ok ftX5_ok ctX5_ok xnoc [123] [] [] 120 ?_
    refine hX.alike (G2 := [.inr (3, [.ref 1, .ref 2, .ref 3, .ref 4, .ref 5, .ref 6, .int (nI n)]), .inl (8, .inl (mks)), .inl (8, .inr (.inr (.inr (.inr (gmap))))), .inl (3, .inr (.inr (.inr (.inr (fmap))))), .inl (3, .inr (.inr (.inr (.inr (tmap))))), .inl (3, .inr (.inl (we))), .inl (2, .inr (.inl (fun i => zl (pr1 q F H i)))), .inl (3, .inr (.inl (fun i => zl (q 0 i)))), .inl (3, .inr (.inl (fun i => zl (q 1 i)))), .inl (3, .inr (.inl (fun i => zl (q 2 i)))), .inl (3, .inr (.inl (fun i => zl (q 3 i)))), .inl (3, .inr (.inl (fun i => zl (q 4 i)))), .inl (3, .inr (.inl (fun i => zl (q 5 i)))), .inl (3, .inr (.inl (fun i => zl (q 6 i)))), .inl (3, .inr (.inl (fun i => zl (q 7 i)))), .inl (3, .inr (.inl (fun i => zl (F 0 i)))), .inl (3, .inr (.inl (fun i => zl (F 1 i)))), .inl (3, .inr (.inl (fun i => zl (F 2 i)))), .inl (3, .inr (.inl (fun i => zl (H 0 i)))), .inl (3, .inr (.inl (fun i => zl (H 1 i)))), .inl (3, .inr (.inl (fun i => zl (H 2 i)))), .inl (9, .inr (.inl (out)))]) ?_ ⟨xsame_rf _, xsame_rf _, xsame_rf _, xsame_rf _, xsame_rf _, xsame_rf _, ⟨rfl, fun i hi => ?_⟩, xsame_rf _, xsame_rf _, xsame_rf _, xsame_rf _, xsame_rf _, xsame_rf _, xsame_rf _, xsame_rf _, xsame_rf _, xsame_rf _, xsame_rf _, xsame_rf _, xsame_rf _, xsame_rf _, xsame_rf _, trivial⟩
    rotate_left
    · unfold vp_updL
      simp only [zl_mul]
      rcases (show i = 0 ∨ i = 1 by omega) with rfl | rfl <;> rfl
    refine hX.run (ft := ftX5) (ct := ctX5) (oc := []) kX5_findWeights_ok ftX5_ok ctX5_ok xnoc [] [] [] 120 ?_
    refine hX.callS [6] [] (k_reduce l 2 (by omega) 750000 (by exact ⟨by omega, by omega⟩) (pr1 q F H) j1 n1) yX3_reduce_ok lkX5_136 ssX3_reduce ⟨rfl, rfl, by decide, by decide⟩ (kX5_findWeights_ok.at 130 rfl) rfl rfl (by decide) ⟨rfl, trivial⟩ rfl (fun _ _ q => by rw [q.2]; rfl) (fun r9 G1 q => ?_)
    obtain ⟨rfl, rfl⟩ := q
    refine hX.run (ft := ftX5) (ct := ctX5) (oc := []) kX5_findWeights_ok ftX5_ok ctX5_ok xnoc [138] [] [] 120 ?_
    refine ⟨fun h => no _ _ (by unfold fwB; rw [bI_0.mp h]; rfl), fun h => mid (bI_t h)⟩
  refine hX.run (ft := ftX5) (ct := ctX5) (oc := []) kX5_findWeights_ok ftX5_ok ctX5_ok xnoc [] [] [] 120 ?_
  refine hX.callS [15, 10] [] (k_dot l (F 0) (q 3)) yX7_dot_ok lkX5_116 ssX7_dot ⟨rfl, rfl, by decide, by decide⟩ (kX5_findWeights_ok.at 12 rfl) rfl rfl (by decide) ⟨rfl, rfl, trivial⟩ rfl (fun _ _ q => by rw [q.2]) (fun r9 G1 q => ?_)
  obtain ⟨rfl, rfl⟩ := q
  refine hX.run (ft := ftX5) (ct := ctX5) (oc := []) kX5_findWeights_ok ftX5_ok ctX5_ok xnoc [] [] [] 120 ?_
  refine hX.callS [16, 10] [] (k_dot l (F 1) (q 3)) yX7_dot_ok lkX5_116 ssX7_dot ⟨rfl, rfl, by decide, by decide⟩ (kX5_findWeights_ok.at 28 rfl) rfl rfl (by decide) ⟨rfl, rfl, trivial⟩ rfl (fun _ _ q => by rw [q.2]) (fun r9 G1 q => ?_)
  obtain ⟨rfl, rfl⟩ := q
  refine hX.run (ft := ftX5) (ct := ctX5) (oc := []) kX5_findWeights_ok ftX5_ok ctX5_ok xnoc [] [] [] 120 ?_
  refine hX.callS [17, 10] [] (k_dot l (F 2) (q 3)) yX7_dot_ok lkX5_116 ssX7_dot ⟨rfl, rfl, by decide, by decide⟩ (kX5_findWeights_ok.at 44 rfl) rfl rfl (by decide) ⟨rfl, rfl, trivial⟩ rfl (fun _ _ q => by rw [q.2]) (fun r9 G1 q => ?_)
  obtain ⟨rfl, rfl⟩ := q
  refine hX.run (ft := ftX5) (ct := ctX5) (oc := []) kX5_findWeights_ok ftX5_ok ctX5_ok xnoc [] [] [] 120 ?_
  refine hX.callS [18, 14] [] (k_dot l (H 0) (q 7)) yX7_dot_ok lkX5_116 ssX7_dot ⟨rfl, rfl, by decide, by decide⟩ (kX5_findWeights_ok.at 62 rfl) rfl rfl (by decide) ⟨rfl, rfl, trivial⟩ rfl (fun _ _ q => by rw [q.2]) (fun r9 G1 q => ?_)
  obtain ⟨rfl, rfl⟩ := q
  refine hX.run (ft := ftX5) (ct := ctX5) (oc := []) kX5_findWeights_ok ftX5_ok ctX5_ok xnoc [] [] [] 120 ?_
  refine hX.callS [19, 14] [] (k_dot l (H 1) (q 7)) yX7_dot_ok lkX5_116 ssX7_dot ⟨rfl, rfl, by decide, by decide⟩ (kX5_findWeights_ok.at 80 rfl) rfl rfl (by decide) ⟨rfl, rfl, trivial⟩ rfl (fun _ _ q => by rw [q.2]) (fun r9 G1 q => ?_)
  obtain ⟨rfl, rfl⟩ := q
  refine hX.run (ft := ftX5) (ct := ctX5) (oc := []) kX5_findWeights_ok ftX5_ok ctX5_ok xnoc [] [] [] 120 ?_
  refine hX.callS [20, 14] [] (k_dot l (H 2) (q 7)) yX7_dot_ok lkX5_116 ssX7_dot ⟨rfl, rfl, by decide, by decide⟩ (kX5_findWeights_ok.at 98 rfl) rfl rfl (by decide) ⟨rfl, rfl, trivial⟩ rfl (fun _ _ q => by rw [q.2]) (fun r9 G1 q => ?_)
  obtain ⟨rfl, rfl⟩ := q
  refine hX.run (ft := ftX5) (ct := ctX5) (oc := []) kX5_findWeights_ok ftX5_ok ctX5_ok xnoc [103] [] [] 120 ?_
  exact start
def prjC (n : Nat) (ss : Nat → Nat) (q : Nat → Nat → Int) : Int := if (cAll n ss 0 8 = true ∧ ¬ inl0 q 0 = 0 ∧ ¬ inl0 q 4 = 0) ∧ (¬ frW q (sidF q 0) 0 = 0 ∧ ¬ toW q (sidF q 4) 0 = 0) ∧ (¬ frW q (sidF q 0) 1 = 0 ∧ ¬ toW q (sidF q 4) 1 = 0) ∧ (¬ frW q (sidF q 0) 2 = 0 ∧ ¬ toW q (sidF q 4) 2 = 0) then (if fwB q (sidF q 0) (sidF q 4) then 0 else -4) else -3
def prjW (q : Nat → Nat → Int) : Nat → Int := lst (wt3 q (sidF q 0) (sidF q 4)) 3
set_option maxHeartbeats 4000000 in
set_option maxRecDepth 100000 in
theorem k_bProj (l : Launch) (n : Nat) (mks : Nat → Int32) (q : Nat → Nat → Int) (f0 f1 f2 t0 t1 t2 we pa out : Nat → Int64) (ss : Nat → Nat) (hr : MR n ss mks q) : xM l yX5_buildProjective cX5_buildProjective 3 (some .int) rX5_buildProjective [.ref 0, .ref 21] [.inr (3, [.ref 1, .ref 2, .ref 3, .ref 4, .ref 5, .ref 6, .int (nI n)]), .inl (8, .inl (mks)), .inl (8, .inr (.inr (.inr (.inr (gmap))))), .inl (3, .inr (.inr (.inr (.inr (fmap))))), .inl (3, .inr (.inr (.inr (.inr (tmap))))), .inl (3, .inr (.inl (we))), .inl (2, .inr (.inl (pa))), .inl (3, .inr (.inl (fun i => zl (q 0 i)))), .inl (3, .inr (.inl (fun i => zl (q 1 i)))), .inl (3, .inr (.inl (fun i => zl (q 2 i)))), .inl (3, .inr (.inl (fun i => zl (q 3 i)))), .inl (3, .inr (.inl (fun i => zl (q 4 i)))), .inl (3, .inr (.inl (fun i => zl (q 5 i)))), .inl (3, .inr (.inl (fun i => zl (q 6 i)))), .inl (3, .inr (.inl (fun i => zl (q 7 i)))), .inl (3, .inr (.inl (f0))), .inl (3, .inr (.inl (f1))), .inl (3, .inr (.inl (f2))), .inl (3, .inr (.inl (t0))), .inl (3, .inr (.inl (t1))), .inl (3, .inr (.inl (t2))), .inl (9, .inr (.inl (out)))] (fun r G => ∃ f0' f1' f2' t0' t1' t2' we' pa' out', r = some (.int (zi (prjC n ss q))) ∧ ((prjC n ss q) = 0 → ∀ i, i < 9 → out' i = zl (wgt (prjW q) q (sidF q 0) 4 i)) ∧ G = [.inr (3, [.ref 1, .ref 2, .ref 3, .ref 4, .ref 5, .ref 6, .int (nI n)]), .inl (8, .inl (mks)), .inl (8, .inr (.inr (.inr (.inr (gmap))))), .inl (3, .inr (.inr (.inr (.inr (fmap))))), .inl (3, .inr (.inr (.inr (.inr (tmap))))), .inl (3, .inr (.inl (we'))), .inl (2, .inr (.inl (pa'))), .inl (3, .inr (.inl (fun i => zl (q 0 i)))), .inl (3, .inr (.inl (fun i => zl (q 1 i)))), .inl (3, .inr (.inl (fun i => zl (q 2 i)))), .inl (3, .inr (.inl (fun i => zl (q 3 i)))), .inl (3, .inr (.inl (fun i => zl (q 4 i)))), .inl (3, .inr (.inl (fun i => zl (q 5 i)))), .inl (3, .inr (.inl (fun i => zl (q 6 i)))), .inl (3, .inr (.inl (fun i => zl (q 7 i)))), .inl (3, .inr (.inl (f0'))), .inl (3, .inr (.inl (f1'))), .inl (3, .inr (.inl (f2'))), .inl (3, .inr (.inl (t0'))), .inl (3, .inr (.inl (t1'))), .inl (3, .inr (.inl (t2'))), .inl (9, .inr (.inl (out')))]) := by
  refine xM.of (by decide) (Nat.le_of_ble_eq_true rfl) (fun X hX => ?_)
  have j0 : jr 0 := ⟨by omega, by omega⟩
  have no : ∀ f0 f1 f2 t0 t1 t2 : Nat → Int64, (prjC n ss q) = -3 → ∃ f0' f1' f2' t0' t1' t2' we' pa' out', some (Value.int (Int8.ofInt (-3)).toInt32) = some (.int (zi (prjC n ss q))) ∧ ((prjC n ss q) = 0 → ∀ i, i < 9 → out' i = zl (wgt (prjW q) q (sidF q 0) 4 i)) ∧ ([.inr (3, [.ref 1, .ref 2, .ref 3, .ref 4, .ref 5, .ref 6, .int (nI n)]), .inl (8, .inl (mks)), .inl (8, .inr (.inr (.inr (.inr (gmap))))), .inl (3, .inr (.inr (.inr (.inr (fmap))))), .inl (3, .inr (.inr (.inr (.inr (tmap))))), .inl (3, .inr (.inl (we))), .inl (2, .inr (.inl (pa))), .inl (3, .inr (.inl (fun i => zl (q 0 i)))), .inl (3, .inr (.inl (fun i => zl (q 1 i)))), .inl (3, .inr (.inl (fun i => zl (q 2 i)))), .inl (3, .inr (.inl (fun i => zl (q 3 i)))), .inl (3, .inr (.inl (fun i => zl (q 4 i)))), .inl (3, .inr (.inl (fun i => zl (q 5 i)))), .inl (3, .inr (.inl (fun i => zl (q 6 i)))), .inl (3, .inr (.inl (fun i => zl (q 7 i)))), .inl (3, .inr (.inl (f0))), .inl (3, .inr (.inl (f1))), .inl (3, .inr (.inl (f2))), .inl (3, .inr (.inl (t0))), .inl (3, .inr (.inl (t1))), .inl (3, .inr (.inl (t2))), .inl (9, .inr (.inl (out)))] : List xE) = [.inr (3, [.ref 1, .ref 2, .ref 3, .ref 4, .ref 5, .ref 6, .int (nI n)]), .inl (8, .inl (mks)), .inl (8, .inr (.inr (.inr (.inr (gmap))))), .inl (3, .inr (.inr (.inr (.inr (fmap))))), .inl (3, .inr (.inr (.inr (.inr (tmap))))), .inl (3, .inr (.inl (we'))), .inl (2, .inr (.inl (pa'))), .inl (3, .inr (.inl (fun i => zl (q 0 i)))), .inl (3, .inr (.inl (fun i => zl (q 1 i)))), .inl (3, .inr (.inl (fun i => zl (q 2 i)))), .inl (3, .inr (.inl (fun i => zl (q 3 i)))), .inl (3, .inr (.inl (fun i => zl (q 4 i)))), .inl (3, .inr (.inl (fun i => zl (q 5 i)))), .inl (3, .inr (.inl (fun i => zl (q 6 i)))), .inl (3, .inr (.inl (fun i => zl (q 7 i)))), .inl (3, .inr (.inl (f0'))), .inl (3, .inr (.inl (f1'))), .inl (3, .inr (.inl (f2'))), .inl (3, .inr (.inl (t0'))), .inl (3, .inr (.inl (t1'))), .inl (3, .inr (.inl (t2'))), .inl (9, .inr (.inl (out')))] := by
    intro f0 f1 f2 t0 t1 t2 h
    rw [h]
    exact ⟨f0, f1, f2, t0, t1, t2, we, pa, out, rfl, fun q => absurd q (by decide), rfl⟩
  refine hX.run (ft := ftX5) (ct := ctX5) (oc := []) kX5_buildProjective_ok ftX5_ok ctX5_ok xnoc [] [] [] 120 ?_
  refine hX.callV0 (rest := []) (k_areAll l n mks q f0 f1 f2 t0 t1 t2 we pa out ss hr 0 8 (by omega) (by omega)) yX5_areAll_ok lkX5_97 ivX5_areAll slX5_areAll ⟨rfl, rfl, by decide, by decide⟩ (kX5_buildProjective_ok.at 4 rfl) rfl rfl (by decide) rfl rfl rfl (fun _ _ q => by rw [q.2]) (fun r9 G1 q => ?_)
  obtain ⟨rfl, rfl⟩ := q
  refine hX.run (ft := ftX5) (ct := ctX5) (oc := []) kX5_buildProjective_ok ftX5_ok ctX5_ok xnoc [] [] [] 120 ?_
  refine ⟨fun h => no _ _ _ _ _ _ (if_neg (fun q => by rw [bI_0.mp h] at q; exact Bool.noConfusion q.1.1)), fun h => ?_⟩
  have hb := bI_t h
  obtain ⟨hn, hs⟩ := all1 hb
  have bq : ∀ k i, k < 8 → i < 3 → ab (q k i) 500 := fun k i hk hi => hr.2.2 k i (by omega) hi
  have bs : ∀ s k i, s + 2 < 8 → ab (sidF q s k i) 500000 := fun s k i h => by
    have h1 := Nat.mod_lt (k + 1) (show 0 < 3 by omega)
    have h2 := Nat.mod_lt (k + 2) (show 0 < 3 by omega)
    exact crs_bd (fun j hj => bq _ j (by omega) hj) (fun j hj => bq _ j (by omega) hj) i
  have bf : ∀ i, i < 3 → ab (frW q (sidF q 0) i) 750000000 := fun i hi => ab_le (ab_add (ab_add (ab_mul (bs 0 i 0 (by omega)) (bq 3 0 (by omega) (by omega))) (ab_mul (bs 0 i 1 (by omega)) (bq 3 1 (by omega) (by omega)))) (ab_mul (bs 0 i 2 (by omega)) (bq 3 2 (by omega) (by omega)))) (by decide)
  have bt : ∀ i, i < 3 → ab (toW q (sidF q 4) i) 750000000 := fun i hi => ab_le (ab_add (ab_add (ab_mul (bs 4 i 0 (by omega)) (bq 7 0 (by omega) (by omega))) (ab_mul (bs 4 i 1 (by omega)) (bq 7 1 (by omega) (by omega)))) (ab_mul (bs 4 i 2 (by omega)) (bq 7 2 (by omega) (by omega)))) (by decide)
  have jf : ∀ i, i < 3 → jr (frW q (sidF q 0) i) := fun i hi => ab_jr (bf i hi) (by decide)
  have jt : ∀ i, i < 3 → jr (toW q (sidF q 4) i) := fun i hi => ab_jr (bt i hi) (by decide)
  refine hX.callV0 (rest := []) (k_sides0 l n mks q (f0) (f1) (f2) (t0) (t1) (t2) we pa out (fun k i hk hi => hr.2.2 k i (by omega) hi)) yX5_findSides_ok lkX5_109 ivX5_findSides slX5_findSides ⟨rfl, rfl, by decide, by decide⟩ (kX5_buildProjective_ok.at 16 rfl) rfl rfl (by decide) rfl rfl rfl (fun _ _ q => by rw [q.2]; rfl) (fun r9 G1 q => ?_)
  obtain ⟨rfl, rfl⟩ := q
  refine hX.run (ft := ftX5) (ct := ctX5) (oc := []) kX5_buildProjective_ok ftX5_ok ctX5_ok xnoc [] [] [] 120 ?_
  refine ⟨fun h => no _ _ _ _ _ _ (if_neg (fun q => q.1.2.1 (nb0 (bI_0.mp h)))), fun h => ?_⟩
  have g1 : ¬ inl0 q 0 = 0 := nb1 (bI_t h)
  refine hX.callV0 (rest := []) (k_sides4 l n mks q (fun i => zl (crs (q 1) (q 2) i)) (fun i => zl (crs (q 2) (q 0) i)) (fun i => zl (crs (q 0) (q 1) i)) (t0) (t1) (t2) we pa out (fun k i hk hi => hr.2.2 k i (by omega) hi)) yX5_findSides_ok lkX5_109 ivX5_findSides slX5_findSides ⟨rfl, rfl, by decide, by decide⟩ (kX5_buildProjective_ok.at 28 rfl) rfl rfl (by decide) rfl rfl rfl (fun _ _ q => by rw [q.2]; rfl) (fun r9 G1 q => ?_)
  obtain ⟨rfl, rfl⟩ := q
  refine hX.run (ft := ftX5) (ct := ctX5) (oc := []) kX5_buildProjective_ok ftX5_ok ctX5_ok xnoc [39] [] [] 120 ?_
  refine ⟨fun h => no _ _ _ _ _ _ (if_neg (fun q => q.1.2.2 (nb0 (bI_0.mp h)))), fun h => ?_⟩
  have g2 : ¬ inl0 q 4 = 0 := nb1 (bI_t h)
  have s3 : (¬ frW q (sidF q 0) 0 = 0 ∧ ¬ toW q (sidF q 4) 0 = 0) → (¬ frW q (sidF q 0) 1 = 0 ∧ ¬ toW q (sidF q 4) 1 = 0) → (¬ frW q (sidF q 0) 2 = 0 ∧ ¬ toW q (sidF q 4) 2 = 0) → X 39 [some (.ref 0), some (.ref 21), some (.int (nI 3))] [] [.inr (3, [.ref 1, .ref 2, .ref 3, .ref 4, .ref 5, .ref 6, .int (nI n)]), .inl (8, .inl (mks)), .inl (8, .inr (.inr (.inr (.inr (gmap))))), .inl (3, .inr (.inr (.inr (.inr (fmap))))), .inl (3, .inr (.inr (.inr (.inr (tmap))))), .inl (3, .inr (.inl (we))), .inl (2, .inr (.inl (pa))), .inl (3, .inr (.inl (fun i => zl (q 0 i)))), .inl (3, .inr (.inl (fun i => zl (q 1 i)))), .inl (3, .inr (.inl (fun i => zl (q 2 i)))), .inl (3, .inr (.inl (fun i => zl (q 3 i)))), .inl (3, .inr (.inl (fun i => zl (q 4 i)))), .inl (3, .inr (.inl (fun i => zl (q 5 i)))), .inl (3, .inr (.inl (fun i => zl (q 6 i)))), .inl (3, .inr (.inl (fun i => zl (q 7 i)))), .inl (3, .inr (.inl (fun i => zl (sidF q 0 0 i)))), .inl (3, .inr (.inl (fun i => zl (sidF q 0 1 i)))), .inl (3, .inr (.inl (fun i => zl (sidF q 0 2 i)))), .inl (3, .inr (.inl (fun i => zl (sidF q 4 0 i)))), .inl (3, .inr (.inl (fun i => zl (sidF q 4 1 i)))), .inl (3, .inr (.inl (fun i => zl (sidF q 4 2 i)))), .inl (9, .inr (.inl (out)))] := by
    intro c0 c1 c2
    have ec : prjC n ss q = if fwB q (sidF q 0) (sidF q 4) then 0 else -4 := if_pos ⟨⟨hb, g1, g2⟩, c0, c1, c2⟩
    have nf : ∀ i, i < 3 → frW q (sidF q 0) i ≠ 0 := fun i hi => by
      rcases (show i = 0 ∨ i = 1 ∨ i = 2 by omega) with rfl | rfl | rfl
      · exact c0.1
      · exact c1.1
      · exact c2.1
    have nt : ∀ i, i < 3 → toW q (sidF q 4) i ≠ 0 := fun i hi => by
      rcases (show i = 0 ∨ i = 1 ∨ i = 2 by omega) with rfl | rfl | rfl
      · exact c0.2
      · exact c1.2
      · exact c2.2
    refine hX.run (ft := ftX5) (ct := ctX5) (oc := []) kX5_buildProjective_ok ftX5_ok ctX5_ok xnoc [] [41] [] 120 ?_
    refine hX.callV0 (rest := []) (k_weights l n mks q (sidF q 0) (sidF q 4) we pa out bf bt nf nt) yX5_findWeights_ok lkX5_122 ivX5_findWeights slX5_findWeights ⟨rfl, rfl, by decide, by decide⟩ (kX5_buildProjective_ok.at 95 rfl) rfl rfl (by decide) rfl rfl rfl (fun _ _ q => by obtain ⟨_, _, -, -, rfl⟩ := q; rfl) (fun r9 G1 q => ?_)
    obtain ⟨we2, pa2, rfl, hw2, rfl⟩ := q
    refine hX.run (ft := ftX5) (ct := ctX5) (oc := []) kX5_buildProjective_ok ftX5_ok ctX5_ok xnoc [] [] [] 120 ?_
    refine ⟨fun h => ?_, fun h => ?_⟩
    · rw [ec, bI_0.mp h]
      exact ⟨_, _, _, _, _, _, _, _, _, rfl, fun q => absurd q (by decide), rfl⟩
    · have hf := bI_t h
      have hw3 := hw2 hf
      subst hw3
      refine hX.callV0 (rest := []) (k_weighted4 l n mks q (sidF q 0) (prjW q) _ _ _ pa2 out) yX5_putWeighted_ok lkX5_113 ivX5_putWeighted slX5_putWeighted ⟨rfl, rfl, by decide, by decide⟩ (kX5_buildProjective_ok.at 107 rfl) rfl rfl (by decide) rfl rfl rfl (fun _ _ q => by rw [q.2]; rfl) (fun r9 G1 q => ?_)
      obtain ⟨rfl, rfl⟩ := q
      refine hX.run (ft := ftX5) (ct := ctX5) (oc := []) kX5_buildProjective_ok ftX5_ok ctX5_ok xnoc [] [] [] 120 ?_
      rw [ec, hf]
      exact ⟨_, _, _, _, _, _, _, _, _, rfl, fun _ i hi => rfl, rfl⟩
  have s2 : (¬ frW q (sidF q 0) 0 = 0 ∧ ¬ toW q (sidF q 4) 0 = 0) → (¬ frW q (sidF q 0) 1 = 0 ∧ ¬ toW q (sidF q 4) 1 = 0) → X 39 [some (.ref 0), some (.ref 21), some (.int (nI 2))] [] [.inr (3, [.ref 1, .ref 2, .ref 3, .ref 4, .ref 5, .ref 6, .int (nI n)]), .inl (8, .inl (mks)), .inl (8, .inr (.inr (.inr (.inr (gmap))))), .inl (3, .inr (.inr (.inr (.inr (fmap))))), .inl (3, .inr (.inr (.inr (.inr (tmap))))), .inl (3, .inr (.inl (we))), .inl (2, .inr (.inl (pa))), .inl (3, .inr (.inl (fun i => zl (q 0 i)))), .inl (3, .inr (.inl (fun i => zl (q 1 i)))), .inl (3, .inr (.inl (fun i => zl (q 2 i)))), .inl (3, .inr (.inl (fun i => zl (q 3 i)))), .inl (3, .inr (.inl (fun i => zl (q 4 i)))), .inl (3, .inr (.inl (fun i => zl (q 5 i)))), .inl (3, .inr (.inl (fun i => zl (q 6 i)))), .inl (3, .inr (.inl (fun i => zl (q 7 i)))), .inl (3, .inr (.inl (fun i => zl (sidF q 0 0 i)))), .inl (3, .inr (.inl (fun i => zl (sidF q 0 1 i)))), .inl (3, .inr (.inl (fun i => zl (sidF q 0 2 i)))), .inl (3, .inr (.inl (fun i => zl (sidF q 4 0 i)))), .inl (3, .inr (.inl (fun i => zl (sidF q 4 1 i)))), .inl (3, .inr (.inl (fun i => zl (sidF q 4 2 i)))), .inl (9, .inr (.inl (out)))] := by
    intro c0 c1
    refine hX.run (ft := ftX5) (ct := ctX5) (oc := []) kX5_buildProjective_ok ftX5_ok ctX5_ok xnoc [] [41] [] 120 ?_
    refine hX.callS [17, 10] [] (k_dot l (sidF q 0 2) (q 3)) yX7_dot_ok lkX5_116 ssX7_dot ⟨rfl, rfl, by decide, by decide⟩ (kX5_buildProjective_ok.at 56 rfl) rfl rfl (by decide) ⟨rfl, rfl, trivial⟩ rfl (fun _ _ q => by rw [q.2]) (fun r9 G1 q => ?_)
    obtain ⟨rfl, rfl⟩ := q
    refine hX.run (ft := ftX5) (ct := ctX5) (oc := []) kX5_buildProjective_ok ftX5_ok ctX5_ok xnoc [] [] [] 120 ?_
    refine ⟨fun h => no _ _ _ _ _ _ (if_neg (fun q => q.2.2.2.1 (lce h rfl rfl (jf 2 (by omega)) j0))), fun h => ?_⟩
    have d1 : ¬ frW q (sidF q 0) 2 = 0 := lcn h rfl rfl
    refine hX.callS [20, 14] [] (k_dot l (sidF q 4 2) (q 7)) yX7_dot_ok lkX5_116 ssX7_dot ⟨rfl, rfl, by decide, by decide⟩ (kX5_buildProjective_ok.at 77 rfl) rfl rfl (by decide) ⟨rfl, rfl, trivial⟩ rfl (fun _ _ q => by rw [q.2]) (fun r9 G1 q => ?_)
    obtain ⟨rfl, rfl⟩ := q
    refine hX.run (ft := ftX5) (ct := ctX5) (oc := []) kX5_buildProjective_ok ftX5_ok ctX5_ok xnoc [39] [] [] 120 ?_
    refine ⟨fun h => no _ _ _ _ _ _ (if_neg (fun q => q.2.2.2.2 (lce h rfl rfl (jt 2 (by omega)) j0))), fun h => ?_⟩
    have d2 : ¬ toW q (sidF q 4) 2 = 0 := lcn h rfl rfl
    exact s3 c0 c1 ⟨d1, d2⟩
  have s1 : (¬ frW q (sidF q 0) 0 = 0 ∧ ¬ toW q (sidF q 4) 0 = 0) → X 39 [some (.ref 0), some (.ref 21), some (.int (nI 1))] [] [.inr (3, [.ref 1, .ref 2, .ref 3, .ref 4, .ref 5, .ref 6, .int (nI n)]), .inl (8, .inl (mks)), .inl (8, .inr (.inr (.inr (.inr (gmap))))), .inl (3, .inr (.inr (.inr (.inr (fmap))))), .inl (3, .inr (.inr (.inr (.inr (tmap))))), .inl (3, .inr (.inl (we))), .inl (2, .inr (.inl (pa))), .inl (3, .inr (.inl (fun i => zl (q 0 i)))), .inl (3, .inr (.inl (fun i => zl (q 1 i)))), .inl (3, .inr (.inl (fun i => zl (q 2 i)))), .inl (3, .inr (.inl (fun i => zl (q 3 i)))), .inl (3, .inr (.inl (fun i => zl (q 4 i)))), .inl (3, .inr (.inl (fun i => zl (q 5 i)))), .inl (3, .inr (.inl (fun i => zl (q 6 i)))), .inl (3, .inr (.inl (fun i => zl (q 7 i)))), .inl (3, .inr (.inl (fun i => zl (sidF q 0 0 i)))), .inl (3, .inr (.inl (fun i => zl (sidF q 0 1 i)))), .inl (3, .inr (.inl (fun i => zl (sidF q 0 2 i)))), .inl (3, .inr (.inl (fun i => zl (sidF q 4 0 i)))), .inl (3, .inr (.inl (fun i => zl (sidF q 4 1 i)))), .inl (3, .inr (.inl (fun i => zl (sidF q 4 2 i)))), .inl (9, .inr (.inl (out)))] := by
    intro c0
    refine hX.run (ft := ftX5) (ct := ctX5) (oc := []) kX5_buildProjective_ok ftX5_ok ctX5_ok xnoc [] [41] [] 120 ?_
    refine hX.callS [16, 10] [] (k_dot l (sidF q 0 1) (q 3)) yX7_dot_ok lkX5_116 ssX7_dot ⟨rfl, rfl, by decide, by decide⟩ (kX5_buildProjective_ok.at 56 rfl) rfl rfl (by decide) ⟨rfl, rfl, trivial⟩ rfl (fun _ _ q => by rw [q.2]) (fun r9 G1 q => ?_)
    obtain ⟨rfl, rfl⟩ := q
    refine hX.run (ft := ftX5) (ct := ctX5) (oc := []) kX5_buildProjective_ok ftX5_ok ctX5_ok xnoc [] [] [] 120 ?_
    refine ⟨fun h => no _ _ _ _ _ _ (if_neg (fun q => q.2.2.1.1 (lce h rfl rfl (jf 1 (by omega)) j0))), fun h => ?_⟩
    have d1 : ¬ frW q (sidF q 0) 1 = 0 := lcn h rfl rfl
    refine hX.callS [19, 14] [] (k_dot l (sidF q 4 1) (q 7)) yX7_dot_ok lkX5_116 ssX7_dot ⟨rfl, rfl, by decide, by decide⟩ (kX5_buildProjective_ok.at 77 rfl) rfl rfl (by decide) ⟨rfl, rfl, trivial⟩ rfl (fun _ _ q => by rw [q.2]) (fun r9 G1 q => ?_)
    obtain ⟨rfl, rfl⟩ := q
    refine hX.run (ft := ftX5) (ct := ctX5) (oc := []) kX5_buildProjective_ok ftX5_ok ctX5_ok xnoc [39] [] [] 120 ?_
    refine ⟨fun h => no _ _ _ _ _ _ (if_neg (fun q => q.2.2.1.2 (lce h rfl rfl (jt 1 (by omega)) j0))), fun h => ?_⟩
    have d2 : ¬ toW q (sidF q 4) 1 = 0 := lcn h rfl rfl
    exact s2 c0 ⟨d1, d2⟩
  have s0 : X 39 [some (.ref 0), some (.ref 21), some (.int (nI 0))] [] [.inr (3, [.ref 1, .ref 2, .ref 3, .ref 4, .ref 5, .ref 6, .int (nI n)]), .inl (8, .inl (mks)), .inl (8, .inr (.inr (.inr (.inr (gmap))))), .inl (3, .inr (.inr (.inr (.inr (fmap))))), .inl (3, .inr (.inr (.inr (.inr (tmap))))), .inl (3, .inr (.inl (we))), .inl (2, .inr (.inl (pa))), .inl (3, .inr (.inl (fun i => zl (q 0 i)))), .inl (3, .inr (.inl (fun i => zl (q 1 i)))), .inl (3, .inr (.inl (fun i => zl (q 2 i)))), .inl (3, .inr (.inl (fun i => zl (q 3 i)))), .inl (3, .inr (.inl (fun i => zl (q 4 i)))), .inl (3, .inr (.inl (fun i => zl (q 5 i)))), .inl (3, .inr (.inl (fun i => zl (q 6 i)))), .inl (3, .inr (.inl (fun i => zl (q 7 i)))), .inl (3, .inr (.inl (fun i => zl (sidF q 0 0 i)))), .inl (3, .inr (.inl (fun i => zl (sidF q 0 1 i)))), .inl (3, .inr (.inl (fun i => zl (sidF q 0 2 i)))), .inl (3, .inr (.inl (fun i => zl (sidF q 4 0 i)))), .inl (3, .inr (.inl (fun i => zl (sidF q 4 1 i)))), .inl (3, .inr (.inl (fun i => zl (sidF q 4 2 i)))), .inl (9, .inr (.inl (out)))] := by
    refine hX.run (ft := ftX5) (ct := ctX5) (oc := []) kX5_buildProjective_ok ftX5_ok ctX5_ok xnoc [] [41] [] 120 ?_
    refine hX.callS [15, 10] [] (k_dot l (sidF q 0 0) (q 3)) yX7_dot_ok lkX5_116 ssX7_dot ⟨rfl, rfl, by decide, by decide⟩ (kX5_buildProjective_ok.at 56 rfl) rfl rfl (by decide) ⟨rfl, rfl, trivial⟩ rfl (fun _ _ q => by rw [q.2]) (fun r9 G1 q => ?_)
    obtain ⟨rfl, rfl⟩ := q
    refine hX.run (ft := ftX5) (ct := ctX5) (oc := []) kX5_buildProjective_ok ftX5_ok ctX5_ok xnoc [] [] [] 120 ?_
    refine ⟨fun h => no _ _ _ _ _ _ (if_neg (fun q => q.2.1.1 (lce h rfl rfl (jf 0 (by omega)) j0))), fun h => ?_⟩
    have d1 : ¬ frW q (sidF q 0) 0 = 0 := lcn h rfl rfl
    refine hX.callS [18, 14] [] (k_dot l (sidF q 4 0) (q 7)) yX7_dot_ok lkX5_116 ssX7_dot ⟨rfl, rfl, by decide, by decide⟩ (kX5_buildProjective_ok.at 77 rfl) rfl rfl (by decide) ⟨rfl, rfl, trivial⟩ rfl (fun _ _ q => by rw [q.2]) (fun r9 G1 q => ?_)
    obtain ⟨rfl, rfl⟩ := q
    refine hX.run (ft := ftX5) (ct := ctX5) (oc := []) kX5_buildProjective_ok ftX5_ok ctX5_ok xnoc [39] [] [] 120 ?_
    refine ⟨fun h => no _ _ _ _ _ _ (if_neg (fun q => q.2.1.2 (lce h rfl rfl (jt 0 (by omega)) j0))), fun h => ?_⟩
    have d2 : ¬ toW q (sidF q 4) 0 = 0 := lcn h rfl rfl
    exact s1  ⟨d1, d2⟩
  exact s0
