/-! the class: shapes, shelves, lineups -/
theorem ev6_det (c : Nat → Int) : det9 (ev6 c) = dshape c := by
  simp only [det9, ev6, dshape]
  simp
  grind
theorem shp_eq {a d : Int} (h : ¬ d = 0) : (0 < a * d) ↔ (0 < a * (if 0 < d then 1 else -1)) := by
  by_cases hd : 0 < d
  · rw [if_pos hd, Int.mul_one]
    constructor
    · intro q
      rw [Int.mul_comm] at q
      exact Int.pos_of_mul_pos_right q hd
    · intro q
      exact Int.mul_pos q hd
  · rw [if_neg hd]
    have hd2 : 0 < -d := by omega
    have e : a * d = (-d) * (-a) := by rw [Int.neg_mul_neg, Int.mul_comm]
    constructor
    · intro q
      rw [e] at q
      have := Int.pos_of_mul_pos_right q hd2
      omega
    · intro q
      rw [e]
      exact Int.mul_pos hd2 (by omega)
set_option maxHeartbeats 4000000 in
set_option maxRecDepth 100000 in
theorem k_shapeOf (l : Launch) (c : Nat → Int) (hc : ∀ i, i < 6 → ab (c i) 500) (f : Nat → Int64) : xM l yX7_shapeOf cX7_shapeOf 6 (some .int) rX7_shapeOf [.ref 0, .ref 1] [.inl (6, .inr (.inl (fun i => zl (c i)))), .inl (9, .inr (.inl (f)))] (fun r G => r = some (.int (zi (shp c))) ∧ G = [.inl (6, .inr (.inl (fun i => zl (c i)))), .inl (9, .inr (.inl (fun i => zl (ev6 c i))))]) := by
  refine xM.of (by decide) (Nat.le_of_ble_eq_true rfl) (fun X hX => ?_)
  have j0 : jr 0 := ⟨by omega, by omega⟩
  have jc : ∀ i, i < 6 → jr (c i) := fun i hi => ab_jr (hc i hi) (by decide)
  have bd : ab (dshape c) 48000000000 := by
    rw [← ev6_det]
    exact det9_bd (fun i hi => ab_le (ev6_bd hc i hi) (by decide))
  have jd : jr (dshape c) := ab_jr bd (by decide)
  have bb : ab (bshape c) 2000000 := ab_le (ab_sub (ab_mul (ab_mul (A := 4) ⟨by omega, by omega⟩ (hc 0 (by omega))) (hc 2 (by omega))) (ab_mul (hc 1 (by omega)) (hc 1 (by omega)))) (by decide)
  have jb : jr (bshape c) := ab_jr bb (by decide)
  have jad : jr (c 0 * dshape c) := ab_jr (ab_mul (hc 0 (by omega)) bd) (by decide)
  have fin : ∀ k : Int, shp c = k → some (Value.int (zi k)) = some (.int (zi (shp c))) ∧ ([.inl (6, .inr (.inl (fun i => zl (c i)))), .inl (9, .inr (.inl (fun i => zl (ev6 c i))))] : List xE) = [.inl (6, .inr (.inl (fun i => zl (c i)))), .inl (9, .inr (.inl (fun i => zl (ev6 c i))))] := fun k h => by rw [h]; exact ⟨rfl, rfl⟩
  refine hX.run (ft := []) (ct := ctX7) (oc := []) kX7_shapeOf_ok xnof ctX7_ok xnoc [] [] [] 80 ?_
  refine hX.callS [0, 1] [] (k_evenTable l c f) yX7_evenTable_ok lkX7_21 ssX7_evenTable ⟨rfl, rfl, by decide, by decide⟩ (kX7_shapeOf_ok.at 2 rfl) rfl rfl (by decide) ⟨rfl, rfl, trivial⟩ rfl (fun _ _ q => by rw [q.2]; rfl) (fun r9 G1 q => ?_)
  obtain ⟨rfl, rfl⟩ := q
  refine hX.run (ft := []) (ct := ctX7) (oc := []) kX7_shapeOf_ok xnof ctX7_ok xnoc [] [] [] 80 ?_
  refine hX.callS [1] [] (k_determinant l (ev6 c)) yX9_determinant_ok lkX7_25 ssX9_determinant ⟨rfl, rfl, by decide, by decide⟩ (kX7_shapeOf_ok.at 6 rfl) rfl rfl (by decide) ⟨rfl, trivial⟩ rfl (fun _ _ q => by rw [q.2]) (fun r9 G1 q => ?_)
  obtain ⟨rfl, rfl⟩ := q
  rw [ev6_det]
  have late : ∀ w : Int64, w = zl (bshape c) → X 31 [some (.ref 0), some (.ref 1), some (.long (zl (dshape c))), none, some (.long w), none] [] [.inl (6, .inr (.inl (fun i => zl (c i)))), .inl (9, .inr (.inl (fun i => zl (ev6 c i))))] := by
    rintro _ rfl
    have t3 : ¬ dshape c = 0 → ¬ (0 < bshape c ∧ 0 < c 0 * (if 0 < dshape c then 1 else -1)) → X 58 [some (.ref 0), some (.ref 1), some (.long (zl (dshape c))), none, some (.long (zl (bshape c))), none] [] [.inl (6, .inr (.inl (fun i => zl (c i)))), .inl (9, .inr (.inl (fun i => zl (ev6 c i))))] := by
      intro n0 n1
      have t4 : ¬ (c 0 = c 2 ∧ c 1 = 0) → X 78 [some (.ref 0), some (.ref 1), some (.long (zl (dshape c))), none, some (.long (zl (bshape c))), none] [] [.inl (6, .inr (.inl (fun i => zl (c i)))), .inl (9, .inr (.inl (fun i => zl (ev6 c i))))] := by
        intro n2
        refine hX.run (ft := []) (ct := ctX7) (oc := []) kX7_shapeOf_ok xnof ctX7_ok xnoc [] [] [] 80 ?_
        refine ⟨fun h => ?_, fun h => ?_⟩
        · have h1 : zl (bshape c) ≤ zl 0 := lgc_le.mp h
          rw [zl_le jb j0] at h1
          refine ⟨fun h => ?_, fun h => ?_⟩
          · have h2 : bshape c = 0 := lce h rfl rfl jb j0
            exact fin 4 (by unfold shp; rw [if_neg n0, if_neg n1, if_neg n2, if_neg (by omega), if_pos h2])
          · have h2 : ¬ bshape c = 0 := lcn h rfl rfl
            exact fin 5 (by unfold shp; rw [if_neg n0, if_neg n1, if_neg n2, if_neg (by omega), if_neg h2])
        · have h1 : ¬ zl (bshape c) ≤ zl 0 := fun q => h (lgc_le.mpr q)
          rw [zl_le jb j0] at h1
          exact fin 3 (by unfold shp; rw [if_neg n0, if_neg n1, if_neg n2, if_pos (by omega)])
      refine hX.run (ft := []) (ct := ctX7) (oc := []) kX7_shapeOf_ok xnof ctX7_ok xnoc [78] [] [] 80 ?_
      refine ⟨fun h => ?_, fun h => ?_⟩
      · have g1 : c 0 = c 2 := lce h rfl rfl (jc 0 (by omega)) (jc 2 (by omega))
        refine ⟨fun h => ?_, fun h => ?_⟩
        · have g2 : c 1 = 0 := lce h rfl rfl (jc 1 (by omega)) j0
          exact fin 2 (by unfold shp; rw [if_neg n0, if_neg n1, if_pos ⟨g1, g2⟩])
        · have g2 : ¬ c 1 = 0 := lcn h rfl rfl
          exact t4 (fun q => g2 q.2)
      · have g1 : ¬ c 0 = c 2 := lcn h rfl rfl
        exact t4 (fun q => g1 q.1)
    refine hX.run (ft := []) (ct := ctX7) (oc := []) kX7_shapeOf_ok xnof ctX7_ok xnoc [58] [] [] 80 ?_
    refine ⟨fun h => ?_, fun h => ?_⟩
    · have g : dshape c = 0 := lce h rfl rfl jd j0
      exact fin 0 (by unfold shp; rw [if_pos g])
    have n0 : ¬ dshape c = 0 := lcn h rfl rfl
    refine ⟨fun h => ?_, fun h => ?_⟩
    · have h1 : zl (bshape c) ≤ zl 0 := lgc_le.mp h
      rw [zl_le jb j0] at h1
      exact t3 n0 (by omega)
    have h1 : ¬ zl (bshape c) ≤ zl 0 := fun q => h (lgc_le.mpr q)
    rw [zl_le jb j0] at h1
    refine ⟨fun h => ?_, fun h => ?_⟩
    · have h2 : zl (c 0) * zl (dshape c) ≤ zl 0 := lgc_le.mp h
      rw [zl_mul, zl_le jad j0] at h2
      exact t3 n0 (fun q => by have := (shp_eq (a := c 0) n0).mpr q.2; omega)
    · have h2 : ¬ zl (c 0) * zl (dshape c) ≤ zl 0 := fun q => h (lgc_le.mpr q)
      rw [zl_mul, zl_le jad j0] at h2
      exact fin 1 (by unfold shp; rw [if_neg n0, if_pos ⟨by omega, (shp_eq n0).mp (by omega)⟩])
  refine hX.run (ft := []) (ct := ctX7) (oc := []) kX7_shapeOf_ok xnof ctX7_ok xnoc [31] [] [] 80 ?_
  refine late _ ?_
  have e4 : (4 : Int64) = zl 4 := rfl
  simp only [e4, zl_mul, zl_sub]
  rfl
def wd (s : Nat) : Nat := if s = 2 then 6 else if s = 3 then 9 else 3
theorem wd_le (s : Nat) : wd s ≤ 9 := by
  unfold wd
  split
  · omega
  · split <;> omega
theorem wd_wid {s : Nat} (h : s ≤ 2) : wd s = wid s := by
  unfold wd wid
  split
  · rfl
  · rw [if_neg (by omega)]
/-- a shelf's cells hold the rows -/
def RH (S : SO) (so ce : Nat → Int32) : Prop := S.1 ≤ 60 ∧ (∀ k, k < S.1 → so k = nI (S.2.1 k) ∧ S.2.1 k ≤ 3) ∧ ∀ k i, k < S.1 → i < wd (S.2.1 k) → ce (9 * k + i) = zi (S.2.2 k i) ∧ -500 ≤ S.2.2 k i ∧ S.2.2 k i ≤ 500
def kpO (c : Nat) (S : SO) (s n : Nat) (w : Nat → Int) : Int × SO := match fnd (hitO S.2.1 S.2.2 s n w) S.1 0 with
  | some k => ((k : Int), S)
  | none => if c ≤ S.1 then (-4, S) else ((S.1 : Int), S.1 + 1, (fun k => if k = S.1 then s else S.2.1 k), fun k => if k = S.1 then w else S.2.2 k)
def fnO (S : SO) (s n : Nat) (w : Nat → Int) : Int := match fnd (hitO S.2.1 S.2.2 s n w) S.1 0 with
  | some k => (k : Int)
  | none => -1
theorem ix9 (k i : Nat) : nI k * (Int8.ofInt 9).toInt32 + nI i = nI (9 * k + i) := by
  rw [show (Int8.ofInt 9).toInt32 = nI 9 by decide, pk_mul, nI_add, Nat.mul_comm]
set_option maxHeartbeats 4000000 in
set_option maxRecDepth 100000 in
theorem k_shSize (l : Launch) (n : Int32) (c : Nat) (so ce : Nat → Int32) : xM l yX8_size cX8_size 1 (some .int) rX8_size [.ref 0] [.inr (5, [.ref 1, .ref 2, .int (nI c), .int (n)]), .inl (60, .inl (so)), .inl (540, .inl (ce))] (fun r G => r = some (.int n) ∧ G = [.inr (5, [.ref 1, .ref 2, .int (nI c), .int (n)]), .inl (60, .inl (so)), .inl (540, .inl (ce))]) := by
  refine xM.of (by decide) (Nat.le_of_ble_eq_true rfl) (fun X hX => ?_)
  refine hX.run (ft := ftX8) (ct := []) (oc := []) kX8_size_ok ftX8_ok xnok xnoc [] [] [] 100 ?_
  exact ⟨rfl, rfl⟩
set_option maxHeartbeats 4000000 in
set_option maxRecDepth 100000 in
theorem k_shClear (l : Launch) (n : Int32) (c : Nat) (so ce : Nat → Int32) : xM l yX8_clear cX8_clear 1 (none : Option FieldType) rX8_clear [.ref 0] [.inr (5, [.ref 1, .ref 2, .int (nI c), .int (n)]), .inl (60, .inl (so)), .inl (540, .inl (ce))] (fun r G => r = none ∧ G = [.inr (5, [.ref 1, .ref 2, .int (nI c), .int (nI 0)]), .inl (60, .inl (so)), .inl (540, .inl (ce))]) := by
  refine xM.of (by decide) (Nat.le_of_ble_eq_true rfl) (fun X hX => ?_)
  refine hX.run (ft := ftX8) (ct := []) (oc := []) kX8_clear_ok ftX8_ok xnok xnoc [] [] [] 100 ?_
  exact ⟨rfl, rfl⟩
set_option maxHeartbeats 4000000 in
set_option maxRecDepth 100000 in
theorem k_has (l : Launch) (n c : Nat) (hn : n ≤ 60) (so ce : Nat → Int32) (k : Int32) : xM l yX8_has cX8_has 2 (some .boolean) rX8_has [.ref 0, .int k] [.inr (5, [.ref 1, .ref 2, .int (nI c), .int (nI n)]), .inl (60, .inl (so)), .inl (540, .inl (ce))] (fun r G => r = some (.int (bI (decide (0 ≤ k.toInt ∧ k.toInt < n)))) ∧ G = [.inr (5, [.ref 1, .ref 2, .int (nI c), .int (nI n)]), .inl (60, .inl (so)), .inl (540, .inl (ce))]) := by
  refine xM.of (by decide) (Nat.le_of_ble_eq_true rfl) (fun X hX => ?_)
  refine hX.run (ft := ftX8) (ct := []) (oc := []) kX8_has_ok ftX8_ok xnok xnoc [] [] [] 100 ?_
  have z0 : (0 : Int32).toInt = 0 := rfl
  refine ⟨fun h => ?_, fun h => ?_⟩
  · rw [Int32.lt_iff_toInt_lt, z0] at h
    rw [decide_eq_false (by omega)]
    exact ⟨rfl, rfl, rfl⟩
  rw [Int32.lt_iff_toInt_lt, z0] at h
  refine ⟨fun h2 => ?_, fun h2 => ?_⟩
  · rw [Int32.le_iff_toInt_le, nI_toInt (by omega)] at h2
    rw [decide_eq_false (by omega)]
    exact ⟨rfl, rfl, rfl⟩
  · rw [Int32.le_iff_toInt_le, nI_toInt (by omega)] at h2
    rw [decide_eq_true (by omega)]
    exact ⟨rfl, rfl, rfl⟩
set_option maxHeartbeats 4000000 in
set_option maxRecDepth 100000 in
theorem k_sortOf (l : Launch) (S : SO) (c : Nat) (so ce : Nat → Int32) (hS : RH S so ce) (k : Int32) : xM l yX8_sortOf cX8_sortOf 2 (some .int) rX8_sortOf [.ref 0, .int k] [.inr (5, [.ref 1, .ref 2, .int (nI c), .int (nI S.1)]), .inl (60, .inl (so)), .inl (540, .inl (ce))] (fun r G => r = some (.int (zi (srtI S k.toInt))) ∧ G = [.inr (5, [.ref 1, .ref 2, .int (nI c), .int (nI S.1)]), .inl (60, .inl (so)), .inl (540, .inl (ce))]) := by
  refine xM.of (by decide) (Nat.le_of_ble_eq_true rfl) (fun X hX => ?_)
  have hN := hS.1
  refine hX.run (ft := ftX8) (ct := []) (oc := []) kX8_sortOf_ok ftX8_ok xnok xnoc [] [] [] 100 ?_
  refine hX.callV [0, 1, 2] [] (k_has l S.1 c hN so ce k) yX8_has_ok lkX8_31 ivX8_has slX8_has ⟨rfl, rfl, by decide, by decide⟩ (kX8_sortOf_ok.at 2 rfl) rfl rfl (by decide) rfl rfl rfl ⟨rfl, rfl, rfl, trivial⟩ rfl (fun _ _ q => by rw [q.2]) (fun r9 G1 q => ?_)
  obtain ⟨rfl, rfl⟩ := q
  refine hX.run (ft := ftX8) (ct := []) (oc := []) kX8_sortOf_ok ftX8_ok xnok xnoc [] [] [13] 100 ?_
  refine ⟨fun h => ?_, fun h => ?_⟩
  · have h1 := of_decide_eq_false (bI_0.mp h)
    have e : srtI S k.toInt = -1 := by unfold srtI; rw [if_neg h1]
    rw [e]
    exact ⟨rfl, rfl⟩
  · have h1 := of_decide_eq_true (bI_t h)
    have e : srtI S k.toInt = (S.2.1 k.toInt.toNat : Int) := by unfold srtI; rw [if_pos h1]
    refine ⟨k.toInt.toNat, nI_of_int (by omega) (by omega), by omega, by omega, ?_⟩
    rw [e, zi_nI, ← (hS.2.1 _ (by omega)).1]
    exact ⟨rfl, rfl⟩
set_option maxHeartbeats 4000000 in
set_option maxRecDepth 100000 in
theorem k_cell (l : Launch) (n c : Nat) (hn : n ≤ 60) (so ce : Nat → Int32) (a j : Nat) (ha : a < n) (hj : j < 9) : xM l yX8_cell cX8_cell 3 (some .int) rX8_cell [.ref 0, .int (nI a), .int (nI j)] [.inr (5, [.ref 1, .ref 2, .int (nI c), .int (nI n)]), .inl (60, .inl (so)), .inl (540, .inl (ce))] (fun r G => r = some (.int (ce (9 * a + j))) ∧ G = [.inr (5, [.ref 1, .ref 2, .int (nI c), .int (nI n)]), .inl (60, .inl (so)), .inl (540, .inl (ce))]) := by
  refine xM.of (by decide) (Nat.le_of_ble_eq_true rfl) (fun X hX => ?_)
  refine hX.run (ft := ftX8) (ct := []) (oc := []) kX8_cell_ok ftX8_ok xnok xnoc [] [] [32] 100 ?_
  refine ⟨fun h => absurd h (nI_pos (by omega)), fun _ => ?_⟩
  refine ⟨fun h => absurd h (nI_ge ha (by omega)), fun _ => ?_⟩
  refine ⟨fun h => absurd h (nI_pos (by omega)), fun _ => ?_⟩
  refine ⟨fun h => absurd h (nI_ge (b := 9) hj (by omega)), fun _ => ?_⟩
  refine ⟨9 * a + j, ix9 a j, by omega, by omega, ?_⟩
  exact ⟨rfl, rfl⟩
set_option maxHeartbeats 4000000 in
set_option maxRecDepth 100000 in
theorem k_load (l : Launch) (S : SO) (c : Nat) (so ce : Nat → Int32) (hS : RH S so ce) (a : Nat) (ha : a < S.1) (N : Nat) (hN : N ≤ wd (S.2.1 a)) (f : Nat → Int64) : xM l yX8_load cX8_load 4 (none : Option FieldType) rX8_load [.ref 0, .int (nI a), .ref 3] [.inr (5, [.ref 1, .ref 2, .int (nI c), .int (nI S.1)]), .inl (60, .inl (so)), .inl (540, .inl (ce)), .inl (N, .inr (.inl (f)))] (fun r G => r = none ∧ G = [.inr (5, [.ref 1, .ref 2, .int (nI c), .int (nI S.1)]), .inl (60, .inl (so)), .inl (540, .inl (ce)), .inl (N, .inr (.inl (fun i => zl (S.2.2 a i))))]) := by
  refine xM.of (by decide) (Nat.le_of_ble_eq_true rfl) (fun X hX => ?_)
  have h60 := hS.1
  have hw := wd_le (S.2.1 a)
  have main : ∀ d k, d + k = N → X 2 [some (.ref 0), some (.int (nI a)), some (.ref 3), some (.int (nI k))] [] [.inr (5, [.ref 1, .ref 2, .int (nI c), .int (nI S.1)]), .inl (60, .inl (so)), .inl (540, .inl (ce)), .inl (N, .inr (.inl (fun i => if i < k then zl (S.2.2 a i) else f i)))] := by
    intro d
    induction d with
    | zero =>
      intro k hk
      have hk : k = N := by omega
      subst hk
      refine hX.run (ft := ftX8) (ct := []) (oc := []) kX8_load_ok ftX8_ok xnok xnoc [24] [] [] 60 ?_
      refine ⟨fun _ => ?_, fun h => absurd (nI_le (Nat.le_refl _) (by omega)) h⟩
      refine hX.alike (G2 := [.inr (5, [.ref 1, .ref 2, .int (nI c), .int (nI S.1)]), .inl (60, .inl (so)), .inl (540, .inl (ce)), .inl (k, .inr (.inl (fun i => zl (S.2.2 a i))))]) ?_ ⟨xsame_rf _, xsame_rf _, xsame_rf _, ⟨rfl, fun i hi => by dsimp only; rw [if_pos hi]⟩, trivial⟩
      refine hX.run (ft := ftX8) (ct := []) (oc := []) kX8_load_ok ftX8_ok xnok xnoc [] [] [] 60 ?_
      exact ⟨rfl, rfl⟩
    | succ d ih =>
      intro k hk
      have hih := ih (k + 1) (by omega)
      rw [← nI_1 k] at hih
      have hce := hS.2.2 a k ha (by omega)
      refine hX.run (ft := ftX8) (ct := []) (oc := []) kX8_load_ok ftX8_ok xnok xnoc [2] [] [] 60 ?_
      refine ⟨fun h => absurd h (nI_ge (by omega) (by omega)), fun _ => ?_⟩
      refine hX.callV [0, 1, 2] [.int (nI k), .ref 3] (k_cell l S.1 c h60 so ce a k ha (by omega)) yX8_cell_ok lkX8_35 ivX8_cell slX8_cell ⟨rfl, rfl, by decide, by decide⟩ (kX8_load_ok.at 13 rfl) rfl rfl (xrs_ok rfl) rfl rfl rfl ⟨rfl, rfl, rfl, trivial⟩ rfl (fun _ _ q => by rw [q.2]) (fun r9 G1 q => ?_)
      obtain ⟨rfl, rfl⟩ := q
      refine hX.run (ft := ftX8) (ct := []) (oc := []) kX8_load_ok ftX8_ok xnok xnoc [2] [] [17] 60 ?_
      refine ⟨k, rfl, by omega, by omega, ?_⟩
      refine hX.alike hih ⟨xsame_rf _, xsame_rf _, xsame_rf _, ⟨rfl, fun i hi => ?_⟩, trivial⟩
      unfold vp_updL
      dsimp only
      by_cases e : i = k
      · subst e
        rw [if_pos rfl, if_pos (show i < i + 1 by omega), hce.1, zl_i (by omega)]
      · rw [if_neg e]
        by_cases e2 : i < k
        · rw [if_pos e2, if_pos (by omega)]
        · rw [if_neg e2, if_neg (by omega)]
  have := main N 0 (by omega)
  refine hX.run (ft := ftX8) (ct := []) (oc := []) kX8_load_ok ftX8_ok xnok xnoc [2] [] [] 60 ?_
  refine hX.alike this ⟨xsame_rf _, xsame_rf _, xsame_rf _, ⟨rfl, fun i hi => ?_⟩, trivial⟩
  dsimp only
  rw [if_neg (Nat.not_lt_zero i)]
theorem alB_no {P : Nat → Bool} {k : Nat} (hk : P k = false) : ∀ {n : Nat}, k < n → alB P n = false
  | 0, h => by omega
  | n + 1, h => by
    unfold alB
    by_cases e : k = n
    · subst e; rw [hk, Bool.and_false]
    · rw [alB_no hk (by omega)]; rfl
set_option maxHeartbeats 4000000 in
set_option maxRecDepth 100000 in
theorem k_isAt (l : Launch) (S : SO) (c : Nat) (so ce : Nat → Int32) (hS : RH S so ce) (a : Nat) (ha : a < S.1) (N : Nat) (hN : N ≤ wd (S.2.1 a)) (z : Nat → Int) (hz : ∀ i, i < N → jr (z i)) : xM l yX8_isAt cX8_isAt 4 (some .boolean) rX8_isAt [.ref 0, .int (nI a), .ref 3] [.inr (5, [.ref 1, .ref 2, .int (nI c), .int (nI S.1)]), .inl (60, .inl (so)), .inl (540, .inl (ce)), .inl (N, .inr (.inl (fun i => zl (z i))))] (fun r G => r = some (.int (bI (alB (fun i => decide (S.2.2 a i = z i)) N))) ∧ G = [.inr (5, [.ref 1, .ref 2, .int (nI c), .int (nI S.1)]), .inl (60, .inl (so)), .inl (540, .inl (ce)), .inl (N, .inr (.inl (fun i => zl (z i))))]) := by
  refine xM.of (by decide) (Nat.le_of_ble_eq_true rfl) (fun X hX => ?_)
  have h60 := hS.1
  have hw := wd_le (S.2.1 a)
  have main : ∀ d k, d + k = N → alB (fun i => decide (S.2.2 a i = z i)) k = true → X 2 [some (.ref 0), some (.int (nI a)), some (.ref 3), some (.int (nI k))] [] [.inr (5, [.ref 1, .ref 2, .int (nI c), .int (nI S.1)]), .inl (60, .inl (so)), .inl (540, .inl (ce)), .inl (N, .inr (.inl (fun i => zl (z i))))] := by
    intro d
    induction d with
    | zero =>
      intro k hk hb
      have hk : k = N := by omega
      subst hk
      refine hX.run (ft := ftX8) (ct := []) (oc := []) kX8_isAt_ok ftX8_ok xnok xnoc [] [] [] 60 ?_
      refine ⟨fun _ => ?_, fun h => absurd (nI_le (Nat.le_refl _) (by omega)) h⟩
      rw [hb]
      exact ⟨rfl, rfl, rfl⟩
    | succ d ih =>
      intro k hk hb
      have hih := ih (k + 1) (by omega)
      rw [← nI_1 k] at hih
      have hce := hS.2.2 a k ha (by omega)
      have jz := hz k (by omega)
      refine hX.run (ft := ftX8) (ct := []) (oc := []) kX8_isAt_ok ftX8_ok xnok xnoc [2] [] [] 60 ?_
      refine ⟨fun h => absurd h (nI_ge (by omega) (by omega)), fun _ => ?_⟩
      refine hX.callV [0, 1, 2] [] (k_cell l S.1 c h60 so ce a k ha (by omega)) yX8_cell_ok lkX8_35 ivX8_cell slX8_cell ⟨rfl, rfl, by decide, by decide⟩ (kX8_isAt_ok.at 11 rfl) rfl rfl (by decide) rfl rfl rfl ⟨rfl, rfl, rfl, trivial⟩ rfl (fun _ _ q => by rw [q.2]) (fun r9 G1 q => ?_)
      obtain ⟨rfl, rfl⟩ := q
      refine hX.run (ft := ftX8) (ct := []) (oc := []) kX8_isAt_ok ftX8_ok xnok xnoc [2] [] [17] 60 ?_
      refine ⟨k, rfl, by omega, by omega, ?_⟩
      have e1 : (ce (9 * a + k)).toInt64 = zl (S.2.2 a k) := by rw [hce.1, zl_i (by omega)]
      refine ⟨fun h => ?_, fun h => ?_⟩
      · have h1 : S.2.2 a k = z k := lce h e1 rfl ⟨by omega, by omega⟩ jz
        exact hih (by unfold alB; rw [hb, decide_eq_true h1]; rfl)
      · have h1 : ¬ S.2.2 a k = z k := lcn h e1 rfl
        rw [alB_no (P := fun i => decide (S.2.2 a i = z i)) (k := k) (decide_eq_false h1) (by omega)]
        exact ⟨rfl, rfl, rfl⟩
  have := main N 0 (by omega) rfl
  refine hX.run (ft := ftX8) (ct := []) (oc := []) kX8_isAt_ok ftX8_ok xnok xnoc [2] [] [] 60 ?_
  exact this
set_option maxHeartbeats 4000000 in
set_option maxRecDepth 100000 in
theorem k_find (l : Launch) (S : SO) (c : Nat) (so ce : Nat → Int32) (hS : RH S so ce) (s : Nat) (hs : s ≤ 3) (N : Nat) (hN : N = wd s) (z : Nat → Int) (hz : ∀ i, i < N → jr (z i)) : xM l yX8_find cX8_find 4 (some .int) rX8_find [.ref 0, .int (nI s), .ref 3] [.inr (5, [.ref 1, .ref 2, .int (nI c), .int (nI S.1)]), .inl (60, .inl (so)), .inl (540, .inl (ce)), .inl (N, .inr (.inl (fun i => zl (z i))))] (fun r G => r = some (.int (zi (fnO S s N z))) ∧ G = [.inr (5, [.ref 1, .ref 2, .int (nI c), .int (nI S.1)]), .inl (60, .inl (so)), .inl (540, .inl (ce)), .inl (N, .inr (.inl (fun i => zl (z i))))]) := by
  refine xM.of (by decide) (Nat.le_of_ble_eq_true rfl) (fun X hX => ?_)
  have h60 := hS.1
  have hw := wd_le s
  have main : ∀ d k, d + k = S.1 → fnd (hitO S.2.1 S.2.2 s N z) S.1 0 = fnd (hitO S.2.1 S.2.2 s N z) d k → X 2 [some (.ref 0), some (.int (nI s)), some (.ref 3), some (.int (nI k))] [] [.inr (5, [.ref 1, .ref 2, .int (nI c), .int (nI S.1)]), .inl (60, .inl (so)), .inl (540, .inl (ce)), .inl (N, .inr (.inl (fun i => zl (z i))))] := by
    intro d
    induction d with
    | zero =>
      intro k hk hf
      have hk : k = S.1 := by omega
      subst hk
      refine hX.run (ft := ftX8) (ct := []) (oc := []) kX8_find_ok ftX8_ok xnok xnoc [] [] [] 60 ?_
      refine ⟨fun _ => ?_, fun h => absurd (nI_le (Nat.le_refl _) (by omega)) h⟩
      have e : fnO S s N z = -1 := by unfold fnO; rw [hf]; rfl
      rw [e]
      exact ⟨rfl, rfl⟩
    | succ d ih =>
      intro k hk hf
      have hih := ih (k + 1) (by omega)
      rw [← nI_1 k] at hih
      have hso := hS.2.1 k (by omega)
      refine hX.run (ft := ftX8) (ct := []) (oc := []) kX8_find_ok ftX8_ok xnok xnoc [2] [] [15] 60 ?_
      refine ⟨fun h => absurd h (nI_ge (by omega) (by omega)), fun _ => ?_⟩
      refine ⟨k, rfl, by omega, by omega, ?_⟩
      refine ⟨fun h => ?_, fun h => ?_⟩
      rotate_left
      · have h1 : ¬ S.2.1 k = s := fun e => h (by show so k = nI s; rw [hso.1, e])
        exact hih (by rw [hf, fnd]; unfold hitO; rw [decide_eq_false h1]; rfl)
      have h1 : S.2.1 k = s := by
        have h2 : nI (S.2.1 k) = nI s := hso.1.symm.trans h
        rwa [nI_eq (by omega) (by omega)] at h2
      refine hX.callV [0, 1, 2, 3] [] (k_isAt l S c so ce hS k (by omega) N (by rw [h1, hN]; exact Nat.le_refl _) z hz) yX8_isAt_ok lkX8_38 ivX8_isAt slX8_isAt ⟨rfl, rfl, by decide, by decide⟩ (kX8_find_ok.at 23 rfl) rfl rfl (by decide) rfl rfl rfl ⟨rfl, rfl, rfl, rfl, trivial⟩ rfl (fun _ _ q => by rw [q.2]) (fun r9 G1 q => ?_)
      obtain ⟨rfl, rfl⟩ := q
      refine hX.run (ft := ftX8) (ct := []) (oc := []) kX8_find_ok ftX8_ok xnok xnoc [2] [] [15] 60 ?_
      refine ⟨fun h => ?_, fun h => ?_⟩
      · exact hih (by rw [hf, fnd]; unfold hitO; rw [decide_eq_true h1, bI_0.mp h]; rfl)
      · have e : fnO S s N z = (k : Int) := by
          unfold fnO
          rw [hf, fnd]
          unfold hitO
          rw [decide_eq_true h1, bI_t h]
          rfl
        rw [e, zi_nI]
        exact ⟨rfl, rfl⟩
  have := main S.1 0 (by omega) rfl
  refine hX.run (ft := ftX8) (ct := []) (oc := []) kX8_find_ok ftX8_ok xnok xnoc [2] [] [] 60 ?_
  exact this
set_option maxHeartbeats 4000000 in
set_option maxRecDepth 100000 in
theorem fnO_or (S : SO) (s N : Nat) (z : Nat → Int) : fnO S s N z = -1 ∨ (0 ≤ fnO S s N z ∧ fnO S s N z < S.1) := by
  unfold fnO
  cases h : fnd (hitO S.2.1 S.2.2 s N z) S.1 0 with
  | none => exact Or.inl rfl
  | some k =>
    have := fnd_lt h
    refine Or.inr ⟨?_, ?_⟩ <;> dsimp only <;> omega
set_option maxHeartbeats 4000000 in
set_option maxRecDepth 100000 in
theorem k_keep (l : Launch) (S : SO) (c : Nat) (so ce : Nat → Int32) (hc : c ≤ 60) (hS : RH S so ce) (hSc : S.1 ≤ c) (s : Nat) (hs : s ≤ 3) (N : Nat) (hN : N = wd s) (z : Nat → Int) (hz : ∀ i, i < N → -500 ≤ z i ∧ z i ≤ 500) : xM l yX8_keep cX8_keep 5 (some .int) rX8_keep [.ref 0, .int (nI s), .ref 3] [.inr (5, [.ref 1, .ref 2, .int (nI c), .int (nI S.1)]), .inl (60, .inl (so)), .inl (540, .inl (ce)), .inl (N, .inr (.inl (fun i => zl (z i))))] (fun r G => ∃ so' ce', r = some (.int (zi (kpO c S s N z).1)) ∧ RH (kpO c S s N z).2 so' ce' ∧ G = [.inr (5, [.ref 1, .ref 2, .int (nI c), .int (nI (kpO c S s N z).2.1)]), .inl (60, .inl (so')), .inl (540, .inl (ce')), .inl (N, .inr (.inl (fun i => zl (z i))))]) := by
  refine xM.of (by decide) (Nat.le_of_ble_eq_true rfl) (fun X hX => ?_)
  have h60 := hS.1
  have hw := wd_le s
  have hor := fnO_or S s N z
  have fill : fnd (hitO S.2.1 S.2.2 s N z) S.1 0 = none → S.1 < c → ∀ d k, d + k = N → X 40 [some (.ref 0), some (.int (nI s)), some (.ref 3), none, some (.int (nI k))] [] [.inr (5, [.ref 1, .ref 2, .int (nI c), .int (nI S.1)]), .inl (60, .inl (upd so S.1 (nI s))), .inl (540, .inl (fun j => if 9 * S.1 ≤ j ∧ j < 9 * S.1 + k then zi (z (j - 9 * S.1)) else ce j)), .inl (N, .inr (.inl (fun i => zl (z i))))] := by
    intro hno hlt d
    have ek : (kpO c S s N z) = ((S.1 : Int), S.1 + 1, (fun k => if k = S.1 then s else S.2.1 k), fun k => if k = S.1 then z else S.2.2 k) := by
      unfold kpO
      rw [hno]
      dsimp only
      rw [if_neg (by omega)]
    have done : X 80 [some (.ref 0), some (.int (nI s)), some (.ref 3), none, none] [] [.inr (5, [.ref 1, .ref 2, .int (nI c), .int (nI S.1)]), .inl (60, .inl (upd so S.1 (nI s))), .inl (540, .inl (fun j => if 9 * S.1 ≤ j ∧ j < 9 * S.1 + N then zi (z (j - 9 * S.1)) else ce j)), .inl (N, .inr (.inl (fun i => zl (z i))))] := by
      refine hX.run (ft := ftX8) (ct := []) (oc := []) kX8_keep_ok ftX8_ok xnok xnoc [] [] [] 60 ?_
      rw [ek]
      refine ⟨upd so S.1 (nI s), fun j => if 9 * S.1 ≤ j ∧ j < 9 * S.1 + N then zi (z (j - 9 * S.1)) else ce j, ?_, ⟨by show S.1 + 1 ≤ 60; omega, fun k hk => ?_, fun k i hk hi => ?_⟩, ?_⟩
      · show some (Value.int (nI S.1 + 1 - 1)) = some (Value.int (zi ((S.1 : Nat) : Int)))
        rw [nI_1, nI_pred, zi_nI]
      · have hk : k < S.1 + 1 := hk
        unfold upd
        dsimp only
        by_cases e : k = S.1
        · rw [if_pos e, if_pos e]; exact ⟨rfl, hs⟩
        · rw [if_neg e, if_neg e]; exact hS.2.1 k (by omega)
      · have hk : k < S.1 + 1 := hk
        dsimp only at hi ⊢
        by_cases e : k = S.1
        · rw [if_pos e] at hi ⊢
          rw [if_pos ⟨by omega, by omega⟩, show 9 * k + i - 9 * S.1 = i by omega]
          exact ⟨rfl, hz i (by omega)⟩
        · rw [if_neg e] at hi ⊢
          have := wd_le (S.2.1 k)
          rw [if_neg (by omega)]
          exact hS.2.2 k i (by omega) hi
      · show [_, _, _, _] = _
        rw [show nI (S.1 + 1, (fun k => if k = S.1 then s else S.2.1 k), fun k => if k = S.1 then z else S.2.2 k).1 = nI S.1 + 1 from (nI_1 S.1).symm]
        rfl
    induction d with
    | zero =>
      intro k hk
      have hk : k = N := by omega
      subst hk
      refine hX.run (ft := ftX8) (ct := []) (oc := []) kX8_keep_ok ftX8_ok xnok xnoc [80] [] [] 60 ?_
      exact ⟨fun _ => hX.less done ⟨rfl, rfl, rfl, trivial⟩, fun h => absurd (nI_le (Nat.le_refl _) (by omega)) h⟩
    | succ d ih =>
      intro k hk
      have hih := ih (k + 1) (by omega)
      rw [← nI_1 k] at hih
      refine hX.run (ft := ftX8) (ct := []) (oc := []) kX8_keep_ok ftX8_ok xnok xnoc [40] [] [71, 73] 60 ?_
      refine ⟨fun h => absurd h (nI_ge (by omega) (by omega)), fun _ => ?_⟩
      refine ⟨fun h => absurd h (nI_ge (b := 9) (by omega) (by omega)), fun _ => ?_⟩
      refine ⟨k, rfl, by omega, by omega, ?_⟩
      refine ⟨9 * S.1 + k, ix9 S.1 k, by omega, by omega, ?_⟩
      refine hX.alike hih ⟨xsame_rf _, xsame_rf _, ⟨rfl, fun j hj => ?_⟩, xsame_rf _, trivial⟩
      unfold upd
      dsimp only
      by_cases e : j = 9 * S.1 + k
      · subst e
        rw [if_pos rfl, if_pos ⟨by omega, by omega⟩, show 9 * S.1 + k - 9 * S.1 = k by omega]
        exact zi_l _
      · rw [if_neg e]
        by_cases h2 : 9 * S.1 ≤ j ∧ j < 9 * S.1 + k
        · rw [if_pos h2, if_pos ⟨by omega, by omega⟩]
        · rw [if_neg h2, if_neg (by omega)]
  refine hX.run (ft := ftX8) (ct := []) (oc := []) kX8_keep_ok ftX8_ok xnok xnoc [] [] [] 60 ?_
  refine hX.callV [0, 1, 2, 3] [] (k_find l S c so ce hS s hs N hN z (fun i hi => jr5 (hz i hi))) yX8_find_ok lkX8_42 ivX8_find slX8_find ⟨rfl, rfl, by decide, by decide⟩ (kX8_keep_ok.at 3 rfl) rfl rfl (by decide) rfl rfl rfl ⟨rfl, rfl, rfl, rfl, trivial⟩ rfl (fun _ _ q => by rw [q.2]) (fun r9 G1 q => ?_)
  obtain ⟨rfl, rfl⟩ := q
  refine hX.run (ft := ftX8) (ct := []) (oc := []) kX8_keep_ok ftX8_ok xnok xnoc [40] [] [36] 60 ?_
  refine ⟨fun h => ?_, fun h => ?_⟩
  rotate_left
  · have h0 : 0 ≤ fnO S s N z := by
      rw [Int32.lt_iff_toInt_lt, zi_to (by omega)] at h
      have h3 : (0 : Int32).toInt = 0 := rfl
      omega
    have ek : (kpO c S s N z) = (fnO S s N z, S) := by
      unfold kpO
      unfold fnO at h0 ⊢
      cases hh : fnd (hitO S.2.1 S.2.2 s N z) S.1 0 with
      | none => rw [hh] at h0; exact absurd h0 (by decide)
      | some k => rfl
    rw [ek]
    exact ⟨so, ce, rfl, hS, rfl⟩
  have hno : fnd (hitO S.2.1 S.2.2 s N z) S.1 0 = none := by
    rw [Int32.lt_iff_toInt_lt, zi_to (by omega)] at h
    have h3 : (0 : Int32).toInt = 0 := rfl
    unfold fnO at h
    cases hh : fnd (hitO S.2.1 S.2.2 s N z) S.1 0 with
    | none => rfl
    | some k => rw [hh] at h; dsimp only at h; omega
  refine ⟨fun h2 => ?_, fun h2 => ?_⟩
  rotate_left
  · have h3 : c ≤ S.1 := by
      rw [nI_ltI (by omega) (by omega)] at h2
      omega
    have ek : (kpO c S s N z) = (-4, S) := by
      unfold kpO
      rw [hno]
      dsimp only
      rw [if_pos h3]
    rw [ek]
    exact ⟨so, ce, rfl, hS, rfl⟩
  have h3 : S.1 < c := by rwa [nI_ltI (by omega) (by omega)] at h2
  refine ⟨S.1, rfl, by omega, by omega, ?_⟩
  have := fill hno h3 N 0 (by omega)
  refine hX.alike (hX.less this ⟨rfl, rfl, rfl, rfl, trivial⟩) ⟨xsame_rf _, xsame_rf _, ⟨rfl, fun j hj => ?_⟩, xsame_rf _, trivial⟩
  dsimp only
  rw [if_neg (by omega)]
def apV (c : Nat) (V : SV) (k : Nat) : Int × SV := if c ≤ V.1 then (-4, V) else ((V.1 : Int) + 1, V.1 + 1, fun i => if i = V.1 then k else V.2 i)
set_option maxHeartbeats 4000000 in
set_option maxRecDepth 100000 in
theorem k_lnSize (l : Launch) (n : Int32) (c : Nat) (me : Nat → Int32) : xM l yX4_size cX4_size 1 (some .int) rX4_size [.ref 0] [.inr (2, [.ref 1, .int (nI c), .int (n)]), .inl (8, .inl (me))] (fun r G => r = some (.int n) ∧ G = [.inr (2, [.ref 1, .int (nI c), .int (n)]), .inl (8, .inl (me))]) := by
  refine xM.of (by decide) (Nat.le_of_ble_eq_true rfl) (fun X hX => ?_)
  refine hX.run (ft := ftX4) (ct := []) (oc := []) kX4_size_ok ftX4_ok xnok xnoc [] [] [] 100 ?_
  exact ⟨rfl, rfl⟩
set_option maxHeartbeats 4000000 in
set_option maxRecDepth 100000 in
theorem k_lnClear (l : Launch) (n : Int32) (c : Nat) (me : Nat → Int32) : xM l yX4_clear cX4_clear 1 (none : Option FieldType) rX4_clear [.ref 0] [.inr (2, [.ref 1, .int (nI c), .int (n)]), .inl (8, .inl (me))] (fun r G => r = none ∧ G = [.inr (2, [.ref 1, .int (nI c), .int (nI 0)]), .inl (8, .inl (me))]) := by
  refine xM.of (by decide) (Nat.le_of_ble_eq_true rfl) (fun X hX => ?_)
  refine hX.run (ft := ftX4) (ct := []) (oc := []) kX4_clear_ok ftX4_ok xnok xnoc [] [] [] 100 ?_
  exact ⟨rfl, rfl⟩
set_option maxHeartbeats 4000000 in
set_option maxRecDepth 100000 in
theorem k_member (l : Launch) (V : SV) (c lim : Nat) (hc : c ≤ 8) (hl : lim ≤ 60) (me : Nat → Int32) (hV : RV c lim V me) (a : Nat) (ha : a < V.1) : xM l yX4_member cX4_member 2 (some .int) rX4_member [.ref 0, .int (nI a)] [.inr (2, [.ref 1, .int (nI c), .int (nI V.1)]), .inl (8, .inl (me))] (fun r G => r = some (.int (nI (V.2 a))) ∧ G = [.inr (2, [.ref 1, .int (nI c), .int (nI V.1)]), .inl (8, .inl (me))]) := by
  refine xM.of (by decide) (Nat.le_of_ble_eq_true rfl) (fun X hX => ?_)
  have hV8 := hV.1
  refine hX.run (ft := ftX4) (ct := []) (oc := []) kX4_member_ok ftX4_ok xnok xnoc [] [] [17] 100 ?_
  refine ⟨fun h => absurd h (nI_pos (by omega)), fun _ => ?_⟩
  refine ⟨fun h => absurd h (nI_ge ha (by omega)), fun _ => ?_⟩
  refine ⟨a, rfl, by omega, by omega, ?_⟩
  rw [← (hV.2 a ha).1]
  exact ⟨rfl, rfl⟩
set_option maxHeartbeats 4000000 in
set_option maxRecDepth 100000 in
theorem k_append (l : Launch) (V : SV) (c lim : Nat) (hc : c ≤ 8) (hl : lim ≤ 60) (me : Nat → Int32) (hV : RV c lim V me) (k : Nat) (hk : k < lim) : xM l yX4_append cX4_append 2 (some .int) rX4_append [.ref 0, .int (nI k)] [.inr (2, [.ref 1, .int (nI c), .int (nI V.1)]), .inl (8, .inl (me))] (fun r G => ∃ me', r = some (.int (zi (apV c V k).1)) ∧ RV c lim (apV c V k).2 me' ∧ G = [.inr (2, [.ref 1, .int (nI c), .int (nI (apV c V k).2.1)]), .inl (8, .inl (me'))]) := by
  refine xM.of (by decide) (Nat.le_of_ble_eq_true rfl) (fun X hX => ?_)
  have hV8 := hV.1
  refine hX.run (ft := ftX4) (ct := []) (oc := []) kX4_append_ok ftX4_ok xnok xnoc [] [] [23] 100 ?_
  refine ⟨fun h => ?_, fun h => ?_⟩
  rotate_left
  · have h3 : c ≤ V.1 := by
      rw [nI_ltI (by omega) (by omega)] at h
      omega
    have e : (apV c V k) = (-4, V) := by unfold apV; rw [if_pos h3]
    rw [e]
    exact ⟨me, rfl, hV, rfl⟩
  have h3 : V.1 < c := by rwa [nI_ltI (by omega) (by omega)] at h
  have e : (apV c V k) = ((V.1 : Int) + 1, V.1 + 1, fun i => if i = V.1 then k else V.2 i) := by unfold apV; rw [if_neg (by omega)]
  refine ⟨V.1, rfl, by omega, by omega, ?_⟩
  rw [e]
  refine ⟨upd me V.1 (nI k), ?_, ⟨by show V.1 + 1 ≤ c; omega, fun i hi => ?_⟩, ?_⟩
  · show some (Value.int (nI V.1 + 1)) = some (Value.int (zi ((V.1 : Int) + 1)))
    rw [nI_1, ← zi_nI]; rfl
  · have hi : i < V.1 + 1 := hi
    unfold upd
    dsimp only
    by_cases ei : i = V.1
    · rw [if_pos ei, if_pos ei]; exact ⟨rfl, hk⟩
    · rw [if_neg ei, if_neg ei]; exact hV.2 i (by omega)
  · show [_, _] = _
    rw [show nI (V.1 + 1, fun i => if i = V.1 then k else V.2 i).1 = nI V.1 + 1 from (nI_1 V.1).symm]
    rfl
