def mapI (M : SM) (k : Int) : Prop := 0 ≤ k ∧ k < M.1
theorem isM_iff {M : SM} (hM : M.1 ≤ 48) {k : Int32} : isM M k ↔ mapI M k.toInt := by
  unfold mapI
  constructor
  · rintro ⟨j, h1, rfl⟩
    rw [nI_toInt (by omega)]
    omega
  · intro h
    refine ⟨k.toInt.toNat, by omega, nI_of_int (by omega) (by omega)⟩
theorem obj_iff {S : SO} (hN : S.1 ≤ 60) {k : Int32} : (¬ k < 0 ∧ k < nI S.1) ↔ (0 ≤ k.toInt ∧ k.toInt < S.1) := by
  rw [Int32.lt_iff_toInt_lt, Int32.lt_iff_toInt_lt, nI_toInt (by omega)]
  have : (0 : Int32).toInt = 0 := rfl
  omega
def sp_give (S : SS) (k : Int) : Int × SS := if 0 ≤ k ∧ k < S.1.1 then (if S.2.2.1.1 = 8 then (-4, S) else ((S.2.2.1.1 : Int) + 1, (S.1, S.2.1, (S.2.2.1.1 + 1, fun i => if i = S.2.2.1.1 then k.toNat else S.2.2.1.2 i), S.2.2.2))) else (-1, S)
def sp_count (S : SS) (w : Int) : Int := if w = 0 then (S.1.1 : Int) else if w = 1 then (S.2.1.1 : Int) else if w = 2 then (S.2.2.1.1 : Int) else -2
def sp_entry (S : SS) (k i : Int) : Int := if 0 ≤ k ∧ k < S.2.1.1 then (if 0 ≤ i ∧ i ≤ 8 then S.2.1.2 k.toNat i.toNat + 1000 else -2) else -1
def sp_seed (S : SS) (k : Int) : Int × SS := if 0 ≤ k ∧ k < S.2.1.1 then (if S.2.2.2.1.1 = 4 then (-4, S) else ((S.2.2.2.1.1 : Int) + 1, (S.1, S.2.1, S.2.2.1, (S.2.2.2.1.1 + 1, fun i => if i = S.2.2.2.1.1 then k.toNat else S.2.2.2.1.2 i), S.2.2.2.2))) else (-1, S)
def withM (q : Int × SM) (S : SS) : Int × SS := (q.1, (S.1, q.2, S.2.2))
def sp_then (S : SS) (a b : Int) : Int × SS := if (0 ≤ a ∧ a < S.2.1.1) ∧ (0 ≤ b ∧ b < S.2.1.1) then withM (addM S.2.1 (mul9 (S.2.1.2 b.toNat) (S.2.1.2 a.toNat))) S else (-1, S)
def sp_back (S : SS) (a : Int) : Int × SS := if 0 ≤ a ∧ a < S.2.1.1 then withM (addM S.2.1 (adj9 (S.2.1.2 a.toNat))) S else (-1, S)
def sp_element (S : SS) (k i : Int) : Int := if (0 ≤ k ∧ k < S.2.2.2.2.1) ∧ (0 ≤ i ∧ i ≤ 8) then S.2.2.2.2.2 k.toNat i.toNat + 1000 else -2
def sp_among (S : SS) (k : Int) : Int := if 0 ≤ k ∧ k < S.2.1.1 then fndP S.2.2.2.2 (S.2.1.2 k.toNat) else -1
theorem zi_add (a b : Int) : zi a + zi b = zi (a + b) := (Int32.ofInt_add a b).symm
set_option maxHeartbeats 4000000 in
set_option maxRecDepth 100000 in
theorem r_give (l : Launch) (S : SS) (G0 : List xE) (hG : RInv S G0) (k : Int32) : xM l yX11_give cX11_give 2 (some .int) rX11_give [.ref 0, .int k] G0 (fun r G => r = some (.int (zi (sp_give S k.toInt).1)) ∧ RInv (sp_give S k.toInt).2 G) := by
  have hG9 := hG
  obtain ⟨pp, av, be, so, ro, tb, gv, sd, gr, row, table, one, two, rfl, hro, hrt, hrv, hrs, hrg, hr1⟩ := hG
  refine xM.of (by decide) (Nat.le_of_ble_eq_true rfl) (fun X hX => ?_)
  have hN := hro.1
  have hM := hrt.1
  have bad : ¬ (0 ≤ k.toInt ∧ k.toInt < S.1.1) → some (Value.int (Int32.ofInt (-1))) = some (Value.int (zi (sp_give S k.toInt).1)) ∧ RInv (sp_give S k.toInt).2 (GR (nI S.1.1) (nI S.2.1.1) (nI S.2.2.1.1) (nI S.2.2.2.1.1) (nI S.2.2.2.2.1) pp av be so ro tb gv sd gr row table one two) := by
    intro h
    have e : sp_give S k.toInt = (-1, S) := by unfold sp_give; rw [if_neg h]
    rw [e]
    exact ⟨rfl, hG9⟩
  refine hX.run (oc := []) kX11_give_ok ftX11_ok ctX11_ok xnoc [14] [] [] 60 ?_
  refine ⟨fun h => bad (fun q => (obj_iff hN).mpr q |>.1 h), fun h0 => ?_⟩
  refine ⟨fun h => ?_, fun h => bad (fun q => h ((obj_iff hN).mpr q).2)⟩
  have hk := (obj_iff hN).mp ⟨h0, h⟩
  have ek : k = nI k.toInt.toNat := nI_of_int (by omega) (by omega)
  refine hX.run (oc := []) kX11_give_ok ftX11_ok ctX11_ok xnoc [] [] [35] 60 ?_
  have hV := hrv.1
  refine ⟨fun h8 => ?_, fun h8 => ?_⟩
  · have h1 : S.2.2.1.1 = 8 := by
      have h2 : nI S.2.2.1.1 = nI 8 := h8
      rwa [nI_eq (by omega) (by omega)] at h2
    have e : sp_give S k.toInt = (-4, S) := by unfold sp_give; rw [if_pos hk, if_pos h1]
    rw [e]
    exact ⟨rfl, hG9⟩
  · have h1 : ¬ S.2.2.1.1 = 8 := fun e => h8 (by rw [e]; rfl)
    refine ⟨S.2.2.1.1, rfl, by omega, by omega, ?_⟩
    have e : sp_give S k.toInt = ((S.2.2.1.1 : Int) + 1, (S.1, S.2.1, (S.2.2.1.1 + 1, fun i => if i = S.2.2.1.1 then k.toInt.toNat else S.2.2.1.2 i), S.2.2.2)) := by unfold sp_give; rw [if_pos hk, if_neg h1]
    rw [e]
    refine ⟨?_, pp, av, be, so, ro, tb, upd gv S.2.2.1.1 k, sd, gr, row, table, one, two, ?_, hro, hrt, ⟨by show S.2.2.1.1 + 1 ≤ 8; omega, ?_⟩, hrs, hrg, hr1⟩
    · show some (Value.int (nI S.2.2.1.1 + 1)) = some (Value.int (zi ((S.2.2.1.1 : Int) + 1)))
      rw [nI_1, ← zi_nI]; rfl
    · show GR _ _ (nI S.2.2.1.1 + 1) _ _ _ _ _ _ _ _ _ _ _ _ _ _ _ = GR _ _ (nI (S.2.2.1.1 + 1)) _ _ _ _ _ _ _ _ _ _ _ _ _ _ _
      rw [nI_1]
    · intro i hi
      dsimp only at hi ⊢
      unfold upd
      by_cases e : i = S.2.2.1.1
      · rw [if_pos e, if_pos e]
        exact ⟨ek, by omega⟩
      · rw [if_neg e, if_neg e]
        exact hrv.2 i (by omega)
set_option maxHeartbeats 4000000 in
set_option maxRecDepth 100000 in
theorem r_seed (l : Launch) (S : SS) (G0 : List xE) (hG : RInv S G0) (k : Int32) : xM l yX11_seed cX11_seed 2 (some .int) rX11_seed [.ref 0, .int k] G0 (fun r G => r = some (.int (zi (sp_seed S k.toInt).1)) ∧ RInv (sp_seed S k.toInt).2 G) := by
  have hG9 := hG
  obtain ⟨pp, av, be, so, ro, tb, gv, sd, gr, row, table, one, two, rfl, hro, hrt, hrv, hrs, hrg, hr1⟩ := hG
  refine xM.of (by decide) (Nat.le_of_ble_eq_true rfl) (fun X hX => ?_)
  have hN := hro.1
  have hM := hrt.1
  have hoc := xoc1 (oIsMap_ok hX (by decide) hM) xnoc
  have im : ∀ k : Int32, isM S.2.1 k ↔ (0 ≤ k.toInt ∧ k.toInt < S.2.1.1) := fun k => isM_iff (by omega)
  refine hX.run (oc := [(434, oIsMap S.2.1)]) kX11_seed_ok ftX11_ok ctX11_ok hoc [] [5] [30] 60 ?_
  refine ⟨rfl, fun h => ?_, fun h => ?_⟩
  rotate_left
  · have e : sp_seed S k.toInt = (-1, S) := by unfold sp_seed; rw [if_neg (fun q => h ((im _).mpr q))]
    rw [e]
    exact ⟨rfl, hG9⟩
  have hk := (im _).mp h
  have hk' : 0 ≤ k.toInt ∧ k.toInt < S.2.1.1 := hk
  have ek : k = nI k.toInt.toNat := nI_of_int (by omega) (by omega)
  have hV := hrs.1
  refine ⟨fun h8 => ?_, fun h8 => ?_⟩
  · have h1 : S.2.2.2.1.1 = 4 := by
      have h2 : nI S.2.2.2.1.1 = nI 4 := h8
      rwa [nI_eq (by omega) (by omega)] at h2
    have e : sp_seed S k.toInt = (-4, S) := by unfold sp_seed; rw [if_pos hk', if_pos h1]
    rw [e]
    exact ⟨rfl, hG9⟩
  · have h1 : ¬ S.2.2.2.1.1 = 4 := fun e => h8 (by rw [e]; rfl)
    refine ⟨S.2.2.2.1.1, rfl, by omega, by omega, ?_⟩
    have e : sp_seed S k.toInt = ((S.2.2.2.1.1 : Int) + 1, (S.1, S.2.1, S.2.2.1, (S.2.2.2.1.1 + 1, fun i => if i = S.2.2.2.1.1 then k.toInt.toNat else S.2.2.2.1.2 i), S.2.2.2.2)) := by unfold sp_seed; rw [if_pos hk', if_neg h1]
    rw [e]
    refine ⟨?_, pp, av, be, so, ro, tb, gv, upd sd S.2.2.2.1.1 k, gr, row, table, one, two, ?_, hro, hrt, hrv, ⟨by show S.2.2.2.1.1 + 1 ≤ 4; omega, ?_⟩, hrg, hr1⟩
    · show some (Value.int (nI S.2.2.2.1.1 + 1)) = some (Value.int (zi ((S.2.2.2.1.1 : Int) + 1)))
      rw [nI_1, ← zi_nI]; rfl
    · show GR _ _ _ (nI S.2.2.2.1.1 + 1) _ _ _ _ _ _ _ _ _ _ _ _ _ _ = GR _ _ _ (nI (S.2.2.2.1.1 + 1)) _ _ _ _ _ _ _ _ _ _ _ _ _ _
      rw [nI_1]
    · intro i hi
      dsimp only at hi ⊢
      unfold upd
      by_cases e : i = S.2.2.2.1.1
      · rw [if_pos e, if_pos e]
        exact ⟨ek, by omega⟩
      · rw [if_neg e, if_neg e]
        exact hrs.2 i (by omega)
set_option maxHeartbeats 4000000 in
set_option maxRecDepth 100000 in
theorem r_count (l : Launch) (S : SS) (G0 : List xE) (hG : RInv S G0) (w : Int32) : xM l yX11_count cX11_count 2 (some .int) rX11_count [.ref 0, .int w] G0 (fun r G => r = some (.int (zi (sp_count S w.toInt))) ∧ RInv S G) := by
  have hG9 := hG
  obtain ⟨pp, av, be, so, ro, tb, gv, sd, gr, row, table, one, two, rfl, hro, hrt, hrv, hrs, hrg, hr1⟩ := hG
  refine xM.of (by decide) (Nat.le_of_ble_eq_true rfl) (fun X hX => ?_)
  refine hX.run (oc := []) kX11_count_ok ftX11_ok ctX11_ok xnoc [] [] [] 40 ?_
  have h01 : ∀ t : Nat, t < 3 → (w = nI t ↔ w.toInt = t) := by
    intro t ht
    rw [← Int32.toInt_inj, nI_toInt (by omega)]
  have w0 : w = nI 0 ↔ w.toInt = 0 := h01 0 (by omega)
  have w1 : w = nI 1 ↔ w.toInt = 1 := h01 1 (by omega)
  have w2 : w = nI 2 ↔ w.toInt = 2 := h01 2 (by omega)
  refine ⟨fun h => ?_, fun h => ?_⟩
  · have e : sp_count S w.toInt = (S.1.1 : Int) := by unfold sp_count; rw [if_pos (w0.mp h)]
    rw [e, zi_nI]
    exact ⟨rfl, hG9⟩
  · have g0 : ¬ w.toInt = 0 := fun q => h (w0.mpr q)
    refine ⟨fun h => ?_, fun h => ?_⟩
    · have e : sp_count S w.toInt = (S.2.1.1 : Int) := by unfold sp_count; rw [if_neg g0, if_pos (w1.mp h)]
      rw [e, zi_nI]
      exact ⟨rfl, hG9⟩
    · have g1 : ¬ w.toInt = 1 := fun q => h (w1.mpr q)
      refine ⟨fun h => ?_, fun h => ?_⟩
      · have e : sp_count S w.toInt = (S.2.2.1.1 : Int) := by unfold sp_count; rw [if_neg g0, if_neg g1, if_pos (w2.mp h)]
        rw [e, zi_nI]
        exact ⟨rfl, hG9⟩
      · have g2 : ¬ w.toInt = 2 := fun q => h (w2.mpr q)
        have e : sp_count S w.toInt = -2 := by unfold sp_count; rw [if_neg g0, if_neg g1, if_neg g2]
        rw [e]
        exact ⟨rfl, hG9⟩
set_option maxHeartbeats 4000000 in
set_option maxRecDepth 100000 in
theorem r_entry (l : Launch) (S : SS) (G0 : List xE) (hG : RInv S G0) (k i : Int32) : xM l yX11_entry cX11_entry 3 (some .int) rX11_entry [.ref 0, .int k, .int i] G0 (fun r G => r = some (.int (zi (sp_entry S k.toInt i.toInt))) ∧ RInv S G) := by
  have hG9 := hG
  obtain ⟨pp, av, be, so, ro, tb, gv, sd, gr, row, table, one, two, rfl, hro, hrt, hrv, hrs, hrg, hr1⟩ := hG
  refine xM.of (by decide) (Nat.le_of_ble_eq_true rfl) (fun X hX => ?_)
  have hM := hrt.1
  have hoc := xoc1 (oIsMap_ok hX (by decide) hM) (xoc1 (oIn_ok hX (by decide)) xnoc)
  have im : ∀ k : Int32, isM S.2.1 k ↔ (0 ≤ k.toInt ∧ k.toInt < S.2.1.1) := fun k => isM_iff (by omega)
  have i8 : ((0 : Int64) ≤ i.toInt64 ∧ i.toInt64 ≤ 8) ↔ (0 ≤ i.toInt ∧ i.toInt ≤ 8) := by
    have e1 : (0 : Int64) = zl 0 := rfl
    have e2 : (8 : Int64) = zl 8 := rfl
    rw [e1, e2, i64, zl_le ⟨by omega, by omega⟩ (i32_jr i), zl_le (i32_jr i) ⟨by omega, by omega⟩]
  refine hX.run (oc := [(434, oIsMap S.2.1), (125, oIn)]) kX11_entry_ok ftX11_ok ctX11_ok hoc [] [5, 21] [39] 60 ?_
  refine ⟨rfl, fun h => ?_, fun h => ?_⟩
  rotate_left
  · have e : sp_entry S k.toInt i.toInt = -1 := by unfold sp_entry; rw [if_neg (fun q => h ((im _).mpr q))]
    rw [e]
    exact ⟨rfl, hG9⟩
  have hk : 0 ≤ k.toInt ∧ k.toInt < S.2.1.1 := (im _).mp h
  refine ⟨fun h2 => ?_, fun h2 => ?_⟩
  · have hi := i8.mp h2
    have ek : k = nI k.toInt.toNat := nI_of_int (by omega) (by omega)
    have ei : i = nI i.toInt.toNat := nI_of_int (by omega) (by omega)
    have e : sp_entry S k.toInt i.toInt = S.2.1.2 k.toInt.toNat i.toInt.toNat + 1000 := by unfold sp_entry; rw [if_pos hk, if_pos hi]
    refine ⟨9 * k.toInt.toNat + i.toInt.toNat, by rw [← ixT_nI, ← ek, ← ei]; rfl, by omega, by omega, ?_⟩
    rw [e]
    refine ⟨?_, hG9⟩
    rw [(hrt.2 _ _ (by omega) (by omega)).1]
    exact congrArg (fun v => some (Value.int v)) (zi_add _ _)
  · have e : sp_entry S k.toInt i.toInt = -2 := by unfold sp_entry; rw [if_pos hk, if_neg (fun q => h2 (i8.mpr q))]
    rw [e]
    exact ⟨rfl, hG9⟩
set_option maxHeartbeats 4000000 in
set_option maxRecDepth 100000 in
theorem r_element (l : Launch) (S : SS) (G0 : List xE) (hG : RInv S G0) (k i : Int32) : xM l yX11_element cX11_element 3 (some .int) rX11_element [.ref 0, .int k, .int i] G0 (fun r G => r = some (.int (zi (sp_element S k.toInt i.toInt))) ∧ RInv S G) := by
  have hG9 := hG
  obtain ⟨pp, av, be, so, ro, tb, gv, sd, gr, row, table, one, two, rfl, hro, hrt, hrv, hrs, hrg, hr1⟩ := hG
  refine xM.of (by decide) (Nat.le_of_ble_eq_true rfl) (fun X hX => ?_)
  have hM := hrg.1
  have hoc := xoc1 (oIn_ok hX (by decide)) xnoc
  have i8 : ((0 : Int64) ≤ i.toInt64 ∧ i.toInt64 ≤ 8) ↔ (0 ≤ i.toInt ∧ i.toInt ≤ 8) := by
    have e1 : (0 : Int64) = zl 0 := rfl
    have e2 : (8 : Int64) = zl 8 := rfl
    rw [e1, e2, i64, zl_le ⟨by omega, by omega⟩ (i32_jr i), zl_le (i32_jr i) ⟨by omega, by omega⟩]
  have ik : ((0 : Int64) ≤ k.toInt64 ∧ k.toInt64 ≤ (nI S.2.2.2.2.1 - Int32.ofInt 1).toInt64) ↔ (0 ≤ k.toInt ∧ k.toInt < S.2.2.2.2.1) := by
    have e1 : (0 : Int64) = zl 0 := rfl
    have e3 : nI S.2.2.2.2.1 - Int32.ofInt 1 = nI (S.2.2.2.2.1 - 1) := by
      obtain ⟨t, ht⟩ : ∃ t, S.2.2.2.2.1 = t + 1 := ⟨S.2.2.2.2.1 - 1, by omega⟩
      rw [ht]
      exact nI_pred t
    rw [e1, e3, i64, i64, zl_le ⟨by omega, by omega⟩ (i32_jr k), zl_le (i32_jr k) (i32_jr _), nI_toInt (by omega)]
    omega
  have bad : ¬ ((0 ≤ k.toInt ∧ k.toInt < S.2.2.2.2.1) ∧ (0 ≤ i.toInt ∧ i.toInt ≤ 8)) → some (Value.int (Int8.ofInt (-2)).toInt32) = some (Value.int (zi (sp_element S k.toInt i.toInt))) ∧ RInv S (GR (nI S.1.1) (nI S.2.1.1) (nI S.2.2.1.1) (nI S.2.2.2.1.1) (nI S.2.2.2.2.1) pp av be so ro tb gv sd gr row table one two) := by
    intro h
    have e : sp_element S k.toInt i.toInt = -2 := by unfold sp_element; rw [if_neg h]
    rw [e]
    exact ⟨rfl, hG9⟩
  refine hX.run (oc := [(125, oIn)]) kX11_element_ok ftX11_ok ctX11_ok hoc [] [13, 25] [43] 60 ?_
  refine ⟨fun h => ?_, fun h => bad (fun q => h (ik.mpr q.1))⟩
  have hk := ik.mp h
  refine ⟨fun h2 => ?_, fun h2 => bad (fun q => h2 (i8.mpr q.2))⟩
  have hi := i8.mp h2
  have ek : k = nI k.toInt.toNat := nI_of_int (by omega) (by omega)
  have ei : i = nI i.toInt.toNat := nI_of_int (by omega) (by omega)
  have e : sp_element S k.toInt i.toInt = S.2.2.2.2.2 k.toInt.toNat i.toInt.toNat + 1000 := by unfold sp_element; rw [if_pos ⟨hk, hi⟩]
  refine ⟨9 * k.toInt.toNat + i.toInt.toNat, by rw [← ixT_nI, ← ek, ← ei]; rfl, by omega, by omega, ?_⟩
  rw [e]
  refine ⟨?_, hG9⟩
  rw [(hrg.2 _ _ (by omega) (by omega)).1]
  exact congrArg (fun v => some (Value.int v)) (zi_add _ _)
theorem RT.bd {c : Nat} {M : SM} {tb : Nat → Int32} (h : RT c M tb) {k i : Nat} (hk : k < M.1) (hi : i < 9) : ab (M.2 k i) 500 := (h.2 k i hk hi).2
theorem mul9_bd {x y : Nat → Int} {A : Int} (hx : ∀ i, i < 9 → ab (x i) 500) (hy : ∀ i, i < 9 → ab (y i) A) (i : Nat) (hi : i < 9) : ab (mul9 x y i) (1500 * A) := by
  have h1 := Nat.mod_lt i (show 0 < 3 by omega)
  have := ab_add (ab_add (ab_mul (hx (3 * (i / 3)) (by omega)) (hy (i % 3) (by omega))) (ab_mul (hx (3 * (i / 3) + 1) (by omega)) (hy (3 + i % 3) (by omega)))) (ab_mul (hx (3 * (i / 3) + 2) (by omega)) (hy (6 + i % 3) (by omega)))
  exact ab_le this (by omega)
theorem adj9_bd {x : Nat → Int} (hx : ∀ i, i < 9 → ab (x i) 500) (i : Nat) : ab (adj9 x i) 500000 := by
  have h1 := Nat.mod_lt (i % 3 + 1) (show 0 < 3 by omega)
  have h2 := Nat.mod_lt (i % 3 + 2) (show 0 < 3 by omega)
  have h3 := Nat.mod_lt (i / 3 + 1) (show 0 < 3 by omega)
  have h4 := Nat.mod_lt (i / 3 + 2) (show 0 < 3 by omega)
  exact ab_le (ab_sub (ab_mul (hx _ (by omega)) (hx _ (by omega))) (ab_mul (hx _ (by omega)) (hx _ (by omega)))) (by omega)
/-- no map's table is 0, and so with what is put together of two, and turned back -/
def goodM (M : SM) : Prop := ∀ k, k < M.1 → det9 (M.2 k) ≠ 0
theorem tdet {x y : Nat → Int} : det9 (mul9 x y) = det9 x * det9 y := by
  simp only [det9, mul9, Nat.reduceDiv, Nat.reduceMod, Nat.reduceMul, Nat.reduceAdd]
  grind
theorem tadj {x : Nat → Int} : det9 (adj9 x) = det9 x * det9 x := by
  simp only [det9, adj9, Nat.reduceDiv, Nat.reduceMod, Nat.reduceMul, Nat.reduceAdd]
  grind
theorem det_ne {z : Nat → Int} (h : det9 z ≠ 0) : gN z 9 ≠ 0 := by
  intro h0
  have hz := gN_zero h0
  apply h
  unfold det9
  rw [hz 0 (by omega), hz 1 (by omega), hz 2 (by omega)]
  omega
