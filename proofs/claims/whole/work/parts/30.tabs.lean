/-! tables -/
def isM (M : SM) (k : Int32) : Prop := ∃ j : Nat, j < M.1 ∧ k = nI j
def ixT (k i : Int32) : Int32 := (Int8.ofInt 9).toInt32 * k + i
theorem ixT_nI (k i : Nat) : ixT (nI k) (nI i) = nI (9 * k + i) := by
  unfold ixT
  rw [show (Int8.ofInt 9).toInt32 = nI 9 by decide, pk_mul, nI_add]
def det9 (z : Nat → Int) : Int := z 0 * (z 4 * z 8 - z 5 * z 7) - z 1 * (z 3 * z 8 - z 5 * z 6) + z 2 * (z 3 * z 7 - z 4 * z 6)
def mul9 (x y : Nat → Int) (i : Nat) : Int := x (3 * (i / 3)) * y (i % 3) + x (3 * (i / 3) + 1) * y (3 + i % 3) + x (3 * (i / 3) + 2) * y (6 + i % 3)
def adj9 (x : Nat → Int) (n : Nat) : Int := x (3 * ((n % 3 + 1) % 3) + (n / 3 + 1) % 3) * x (3 * ((n % 3 + 2) % 3) + (n / 3 + 2) % 3) - x (3 * ((n % 3 + 1) % 3) + (n / 3 + 2) % 3) * x (3 * ((n % 3 + 2) % 3) + (n / 3 + 1) % 3)
set_option maxHeartbeats 4000000 in
set_option maxRecDepth 100000 in
theorem c_isMap (l : Launch) (n ng ns ngr : Int32) (pp ab be : Int64) (so ro tb gv sd gr : Nat → Int32) (row table one two : Nat → Int64) (M : SM) (hM : M.1 ≤ 40) (k : Int32) : xM l yX11_isMap cX11_isMap 2 (some .boolean) rX11_isMap [.ref 0, .int k] (GR n (nI M.1) ng ns ngr pp ab be so ro tb gv sd gr row table one two) (fun r G => ((isM M k → r = some (.int 1)) ∧ (¬ isM M k → r = some (.int 0))) ∧ G = GR n (nI M.1) ng ns ngr pp ab be so ro tb gv sd gr row table one two) := by
  refine xM.of (by decide) (Nat.le_of_ble_eq_true rfl) (fun X hX => ?_)
  refine hX.run (oc := []) kX11_isMap_ok ftX11_ok ctX11_ok xnoc [] [] [] 40 ?_
  refine ⟨fun h => ?_, fun h0 => ?_⟩
  · have hn : ¬ isM M k := by
      rintro ⟨j, h1, rfl⟩
      exact lt0_nI (by omega) h
    exact ⟨rfl, ⟨fun q => absurd q hn, fun _ => rfl⟩, rfl⟩
  · refine ⟨fun h => ?_, fun h => ?_⟩
    · have hn : ¬ isM M k := by
        rintro ⟨j, h1, rfl⟩
        exact nI_ge h1 (by omega) h
      exact ⟨rfl, ⟨fun q => absurd q hn, fun _ => rfl⟩, rfl⟩
    · obtain ⟨j, hj, rfl⟩ := ge_nI (by omega) h0 h
      exact ⟨rfl, ⟨fun _ => rfl, fun q => absurd ⟨j, hj, rfl⟩ q⟩, rfl⟩
def oIsMap (M : SM) : xH := fun st G K => match st with
  | .int k :: .ref k0 :: r => (match Nat.beq k0 0 && xrs r 8 with
    | true => xGRm G (fun _ nm _ _ _ _ _ _ _ _ _ _ _ _ _ _ _ _ => nm = nI M.1 ∧ (isM M k → K (.int 1 :: r) G) ∧ (¬ isM M k → K (.int 0 :: r) G))
    | false => False)
  | _ => False
theorem oIsMap_ok {l : Launch} {cc : ByteArray} {R : Room} {ret : Option FieldType} {post : Option Value → List xE → Prop} {nL : Nat} {X : Nat → List (Option Value) → List Value → List xE → Prop} (hX : xR l RX11 cc R ret post nL X) (hR : rX11_isMap.frames + 1 ≤ R.frames ∧ 8 + (2 + 11) + rX11_isMap.locals ≤ R.locals) {M : SM} (hM : M.1 ≤ 40) : xHq cc X (434, oIsMap M) := by
  intro pc lv st G K ix hd hk h
  rcases hd with ⟨e, hd⟩ | ⟨e, hd⟩
  · have e : 434 = 2 * ix := e
    have : ix = 217 := by omega
    subst this
    unfold oIsMap at h
    dsimp only at h
    split at h
    next k k0 r =>
      split at h
      next hr =>
        simp only [Bool.and_eq_true] at hr
        obtain ⟨hk0, hr⟩ := hr
        have hk0 := Nat.eq_of_beq_eq_true hk0
        subst hk0
        obtain ⟨n9, nm9, ng9, ns9, ngr9, pp9, ab9, be9, so9, ro9, tb9, gv9, sd9, gr9, row9, table9, one9, two9, rfl, h9⟩ := xGRm_ok h
        clear h
        obtain ⟨rfl, h⟩ := h9
        refine hX.callV0 (c_isMap l n9 ng9 ns9 ngr9 pp9 ab9 be9 so9 ro9 tb9 gv9 sd9 gr9 row9 table9 one9 two9 M hM _) yX11_isMap_ok lkX11_217 ivX11_isMap slX11_isMap ⟨rfl, rfl, hR.1, hR.2⟩ hd rfl rfl (xrs_ok hr) rfl rfl rfl (fun _ _ q => by rw [q.2]) (fun r9 G1 q => ?_)
        obtain ⟨⟨q1, q2⟩, rfl⟩ := q
        by_cases hc : isM M k
        · rw [q1 hc]; exact hk _ _ (h.1 hc)
        · rw [q2 hc]; exact hk _ _ (h.2 hc)
      next => exact h.elim
    next => exact h.elim
  · have e : 434 = 2 * ix + 1 := e
    omega
set_option maxHeartbeats 4000000 in
set_option maxRecDepth 100000 in
theorem c_bring_table (l : Launch) (n ng ns ngr : Int32) (pp ab be : Int64) (so ro tb gv sd gr : Nat → Int32) (row table one two : Nat → Int64) (M : SM) (hM : RT 40 M tb) (m : Nat) (hm : m < M.1) : xM l yX11_bring cX11_bring 4 (none : Option FieldType) rX11_bring [.ref 0, .int (nI m), .ref 8] (GR n (nI M.1) ng ns ngr pp ab be so ro tb gv sd gr row table one two) (fun r G => r = none ∧ G = GR n (nI M.1) ng ns ngr pp ab be so ro tb gv sd gr row (fun i => zl (M.2 m i)) one two) := by
  refine xM.of (by decide) (Nat.le_of_ble_eq_true rfl) (fun X hX => ?_)
  obtain ⟨h40, ht⟩ := hM
  have hv : ∀ i, i < 9 → (tb (9 * m + i)).toInt64 = zl (M.2 m i) := fun i hi => by rw [(ht m i hm hi).1, zl_i (by have := (ht m i hm hi).2; omega)]
  refine hX.run (oc := []) kX11_bring_ok ftX11_ok ctX11_ok xnoc [29] [5] [20] 170 ?_
  refine ⟨9 * m + 0, ixT_nI m 0, by omega, by omega, ?_⟩
  refine ⟨9 * m + 1, ixT_nI m 1, by omega, by omega, ?_⟩
  refine ⟨9 * m + 2, ixT_nI m 2, by omega, by omega, ?_⟩
  refine ⟨9 * m + 3, ixT_nI m 3, by omega, by omega, ?_⟩
  refine ⟨9 * m + 4, ixT_nI m 4, by omega, by omega, ?_⟩
  refine ⟨9 * m + 5, ixT_nI m 5, by omega, by omega, ?_⟩
  refine ⟨9 * m + 6, ixT_nI m 6, by omega, by omega, ?_⟩
  refine ⟨9 * m + 7, ixT_nI m 7, by omega, by omega, ?_⟩
  refine ⟨9 * m + 8, ixT_nI m 8, by omega, by omega, ?_⟩
  refine hX.alike (G2 := GR n (nI M.1) ng ns ngr pp ab be so ro tb gv sd gr row (fun i => zl (M.2 m i)) one two) ?_ ⟨xsame_rf _, xsame_rf _, xsame_rf _, xsame_rf _, xsame_rf _, xsame_rf _, xsame_rf _, xsame_rf _, ⟨rfl, fun i hi => ?_⟩, xsame_rf _, xsame_rf _, trivial⟩
  · refine hX.run (oc := []) kX11_bring_ok ftX11_ok ctX11_ok xnoc [] [] [] 10 ?_
    exact ⟨rfl, rfl⟩
  · unfold vp_updL
    dsimp only
    rcases (show i = 0 ∨ i = 1 ∨ i = 2 ∨ i = 3 ∨ i = 4 ∨ i = 5 ∨ i = 6 ∨ i = 7 ∨ i = 8 by omega) with rfl | rfl | rfl | rfl | rfl | rfl | rfl | rfl | rfl
    · exact hv 0 (by omega)
    · exact hv 1 (by omega)
    · exact hv 2 (by omega)
    · exact hv 3 (by omega)
    · exact hv 4 (by omega)
    · exact hv 5 (by omega)
    · exact hv 6 (by omega)
    · exact hv 7 (by omega)
    · exact hv 8 (by omega)
set_option maxHeartbeats 4000000 in
set_option maxRecDepth 100000 in
theorem c_bring_one (l : Launch) (n ng ns ngr : Int32) (pp ab be : Int64) (so ro tb gv sd gr : Nat → Int32) (row table one two : Nat → Int64) (M : SM) (hM : RT 40 M tb) (m : Nat) (hm : m < M.1) : xM l yX11_bring cX11_bring 4 (none : Option FieldType) rX11_bring [.ref 0, .int (nI m), .ref 9] (GR n (nI M.1) ng ns ngr pp ab be so ro tb gv sd gr row table one two) (fun r G => r = none ∧ G = GR n (nI M.1) ng ns ngr pp ab be so ro tb gv sd gr row table (fun i => zl (M.2 m i)) two) := by
  refine xM.of (by decide) (Nat.le_of_ble_eq_true rfl) (fun X hX => ?_)
  obtain ⟨h40, ht⟩ := hM
  have hv : ∀ i, i < 9 → (tb (9 * m + i)).toInt64 = zl (M.2 m i) := fun i hi => by rw [(ht m i hm hi).1, zl_i (by have := (ht m i hm hi).2; omega)]
  refine hX.run (oc := []) kX11_bring_ok ftX11_ok ctX11_ok xnoc [29] [5] [20] 170 ?_
  refine ⟨9 * m + 0, ixT_nI m 0, by omega, by omega, ?_⟩
  refine ⟨9 * m + 1, ixT_nI m 1, by omega, by omega, ?_⟩
  refine ⟨9 * m + 2, ixT_nI m 2, by omega, by omega, ?_⟩
  refine ⟨9 * m + 3, ixT_nI m 3, by omega, by omega, ?_⟩
  refine ⟨9 * m + 4, ixT_nI m 4, by omega, by omega, ?_⟩
  refine ⟨9 * m + 5, ixT_nI m 5, by omega, by omega, ?_⟩
  refine ⟨9 * m + 6, ixT_nI m 6, by omega, by omega, ?_⟩
  refine ⟨9 * m + 7, ixT_nI m 7, by omega, by omega, ?_⟩
  refine ⟨9 * m + 8, ixT_nI m 8, by omega, by omega, ?_⟩
  refine hX.alike (G2 := GR n (nI M.1) ng ns ngr pp ab be so ro tb gv sd gr row table (fun i => zl (M.2 m i)) two) ?_ ⟨xsame_rf _, xsame_rf _, xsame_rf _, xsame_rf _, xsame_rf _, xsame_rf _, xsame_rf _, xsame_rf _, xsame_rf _, ⟨rfl, fun i hi => ?_⟩, xsame_rf _, trivial⟩
  · refine hX.run (oc := []) kX11_bring_ok ftX11_ok ctX11_ok xnoc [] [] [] 10 ?_
    exact ⟨rfl, rfl⟩
  · unfold vp_updL
    dsimp only
    rcases (show i = 0 ∨ i = 1 ∨ i = 2 ∨ i = 3 ∨ i = 4 ∨ i = 5 ∨ i = 6 ∨ i = 7 ∨ i = 8 by omega) with rfl | rfl | rfl | rfl | rfl | rfl | rfl | rfl | rfl
    · exact hv 0 (by omega)
    · exact hv 1 (by omega)
    · exact hv 2 (by omega)
    · exact hv 3 (by omega)
    · exact hv 4 (by omega)
    · exact hv 5 (by omega)
    · exact hv 6 (by omega)
    · exact hv 7 (by omega)
    · exact hv 8 (by omega)
set_option maxHeartbeats 4000000 in
set_option maxRecDepth 100000 in
theorem c_bring_two (l : Launch) (n ng ns ngr : Int32) (pp ab be : Int64) (so ro tb gv sd gr : Nat → Int32) (row table one two : Nat → Int64) (M : SM) (hM : RT 40 M tb) (m : Nat) (hm : m < M.1) : xM l yX11_bring cX11_bring 4 (none : Option FieldType) rX11_bring [.ref 0, .int (nI m), .ref 10] (GR n (nI M.1) ng ns ngr pp ab be so ro tb gv sd gr row table one two) (fun r G => r = none ∧ G = GR n (nI M.1) ng ns ngr pp ab be so ro tb gv sd gr row table one (fun i => zl (M.2 m i))) := by
  refine xM.of (by decide) (Nat.le_of_ble_eq_true rfl) (fun X hX => ?_)
  obtain ⟨h40, ht⟩ := hM
  have hv : ∀ i, i < 9 → (tb (9 * m + i)).toInt64 = zl (M.2 m i) := fun i hi => by rw [(ht m i hm hi).1, zl_i (by have := (ht m i hm hi).2; omega)]
  refine hX.run (oc := []) kX11_bring_ok ftX11_ok ctX11_ok xnoc [29] [5] [20] 170 ?_
  refine ⟨9 * m + 0, ixT_nI m 0, by omega, by omega, ?_⟩
  refine ⟨9 * m + 1, ixT_nI m 1, by omega, by omega, ?_⟩
  refine ⟨9 * m + 2, ixT_nI m 2, by omega, by omega, ?_⟩
  refine ⟨9 * m + 3, ixT_nI m 3, by omega, by omega, ?_⟩
  refine ⟨9 * m + 4, ixT_nI m 4, by omega, by omega, ?_⟩
  refine ⟨9 * m + 5, ixT_nI m 5, by omega, by omega, ?_⟩
  refine ⟨9 * m + 6, ixT_nI m 6, by omega, by omega, ?_⟩
  refine ⟨9 * m + 7, ixT_nI m 7, by omega, by omega, ?_⟩
  refine ⟨9 * m + 8, ixT_nI m 8, by omega, by omega, ?_⟩
  refine hX.alike (G2 := GR n (nI M.1) ng ns ngr pp ab be so ro tb gv sd gr row table one (fun i => zl (M.2 m i))) ?_ ⟨xsame_rf _, xsame_rf _, xsame_rf _, xsame_rf _, xsame_rf _, xsame_rf _, xsame_rf _, xsame_rf _, xsame_rf _, xsame_rf _, ⟨rfl, fun i hi => ?_⟩, trivial⟩
  · refine hX.run (oc := []) kX11_bring_ok ftX11_ok ctX11_ok xnoc [] [] [] 10 ?_
    exact ⟨rfl, rfl⟩
  · unfold vp_updL
    dsimp only
    rcases (show i = 0 ∨ i = 1 ∨ i = 2 ∨ i = 3 ∨ i = 4 ∨ i = 5 ∨ i = 6 ∨ i = 7 ∨ i = 8 by omega) with rfl | rfl | rfl | rfl | rfl | rfl | rfl | rfl | rfl
    · exact hv 0 (by omega)
    · exact hv 1 (by omega)
    · exact hv 2 (by omega)
    · exact hv 3 (by omega)
    · exact hv 4 (by omega)
    · exact hv 5 (by omega)
    · exact hv 6 (by omega)
    · exact hv 7 (by omega)
    · exact hv 8 (by omega)
set_option maxHeartbeats 4000000 in
set_option maxRecDepth 100000 in
theorem c_det (l : Launch) (z : Nat → Int) : xM l yX11_det cX11_det 1 (some .long) rX11_det [.ref 0] [.inl (9, .inr (.inl (fun i => zl (z i))))] (fun r G => r = some (.long (zl (det9 z))) ∧ G = [.inl (9, .inr (.inl (fun i => zl (z i))))]) := by
  refine xM.of (by decide) (Nat.le_of_ble_eq_true rfl) (fun X hX => ?_)
  refine hX.run (oc := []) kX11_det_ok ftX11_ok ctX11_ok xnoc [] [] [] 70 ?_
  refine ⟨?_, rfl⟩
  simp only [zl_mul, zl_add, zl_sub]
  rfl
set_option maxHeartbeats 4000000 in
set_option maxRecDepth 100000 in
theorem c_times (l : Launch) (x y : Nat → Int) (f : Nat → Int64) : xM l yX11_times cX11_times 5 (none : Option FieldType) rX11_times [.ref 0, .ref 1, .ref 2] [.inl (9, .inr (.inl (fun i => zl (x i)))), .inl (9, .inr (.inl (fun i => zl (y i)))), .inl (9, .inr (.inl (f)))] (fun r G => r = none ∧ G = [.inl (9, .inr (.inl (fun i => zl (x i)))), .inl (9, .inr (.inl (fun i => zl (y i)))), .inl (9, .inr (.inl (fun i => zl (mul9 x y i))))]) := by
  refine xM.of (by decide) (Nat.le_of_ble_eq_true rfl) (fun X hX => ?_)
  refine hX.run (oc := []) kX11_times_ok ftX11_ok ctX11_ok xnoc [77] [4, 13] [] 600 ?_
  refine hX.alike (G2 := [.inl (9, .inr (.inl (fun i => zl (x i)))), .inl (9, .inr (.inl (fun i => zl (y i)))), .inl (9, .inr (.inl (fun i => zl (mul9 x y i))))]) ?_ ⟨xsame_rf _, xsame_rf _, ⟨rfl, fun i hi => ?_⟩, trivial⟩
  · refine hX.run (oc := []) kX11_times_ok ftX11_ok ctX11_ok xnoc [] [] [] 10 ?_
    exact ⟨rfl, rfl⟩
  · unfold vp_updL
    dsimp only
    simp only [zl_mul, zl_add, zl_sub]
    rcases (show i = 0 ∨ i = 1 ∨ i = 2 ∨ i = 3 ∨ i = 4 ∨ i = 5 ∨ i = 6 ∨ i = 7 ∨ i = 8 by omega) with rfl | rfl | rfl | rfl | rfl | rfl | rfl | rfl | rfl <;> rfl
set_option maxHeartbeats 4000000 in
set_option maxRecDepth 100000 in
theorem c_times2 (l : Launch) (x : Nat → Int) (f : Nat → Int64) : xM l yX11_times cX11_times 5 (none : Option FieldType) rX11_times [.ref 0, .ref 0, .ref 1] [.inl (9, .inr (.inl (fun i => zl (x i)))), .inl (9, .inr (.inl (f)))] (fun r G => r = none ∧ G = [.inl (9, .inr (.inl (fun i => zl (x i)))), .inl (9, .inr (.inl (fun i => zl (mul9 x x i))))]) := by
  refine xM.of (by decide) (Nat.le_of_ble_eq_true rfl) (fun X hX => ?_)
  refine hX.run (oc := []) kX11_times_ok ftX11_ok ctX11_ok xnoc [77] [4, 13] [] 600 ?_
  refine hX.alike (G2 := [.inl (9, .inr (.inl (fun i => zl (x i)))), .inl (9, .inr (.inl (fun i => zl (mul9 x x i))))]) ?_ ⟨xsame_rf _, ⟨rfl, fun i hi => ?_⟩, trivial⟩
  · refine hX.run (oc := []) kX11_times_ok ftX11_ok ctX11_ok xnoc [] [] [] 10 ?_
    exact ⟨rfl, rfl⟩
  · unfold vp_updL
    dsimp only
    simp only [zl_mul, zl_add, zl_sub]
    rcases (show i = 0 ∨ i = 1 ∨ i = 2 ∨ i = 3 ∨ i = 4 ∨ i = 5 ∨ i = 6 ∨ i = 7 ∨ i = 8 by omega) with rfl | rfl | rfl | rfl | rfl | rfl | rfl | rfl | rfl <;> rfl
set_option maxHeartbeats 4000000 in
set_option maxRecDepth 100000 in
theorem c_turnBack (l : Launch) (x : Nat → Int) (f : Nat → Int64) : xM l yX11_turnBack cX11_turnBack 8 (none : Option FieldType) rX11_turnBack [.ref 0, .ref 1] [.inl (9, .inr (.inl (fun i => zl (x i)))), .inl (9, .inr (.inl (f)))] (fun r G => r = none ∧ G = [.inl (9, .inr (.inl (fun i => zl (x i)))), .inl (9, .inr (.inl (fun i => zl (adj9 x i))))]) := by
  refine xM.of (by decide) (Nat.le_of_ble_eq_true rfl) (fun X hX => ?_)
  refine hX.run (oc := []) kX11_turnBack_ok ftX11_ok ctX11_ok xnoc [100] [4, 11] [] 900 ?_
  refine hX.alike (G2 := [.inl (9, .inr (.inl (fun i => zl (x i)))), .inl (9, .inr (.inl (fun i => zl (adj9 x i))))]) ?_ ⟨xsame_rf _, ⟨rfl, fun i hi => ?_⟩, trivial⟩
  · refine hX.run (oc := []) kX11_turnBack_ok ftX11_ok ctX11_ok xnoc [] [] [] 10 ?_
    exact ⟨rfl, rfl⟩
  · unfold vp_updL
    dsimp only
    simp only [zl_mul, zl_add, zl_sub]
    rcases (show i = 0 ∨ i = 1 ∨ i = 2 ∨ i = 3 ∨ i = 4 ∨ i = 5 ∨ i = 6 ∨ i = 7 ∨ i = 8 by omega) with rfl | rfl | rfl | rfl | rfl | rfl | rfl | rfl | rfl <;> rfl
