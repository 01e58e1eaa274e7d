/-! the class: own values, what is fixed -/
set_option maxHeartbeats 4000000 in
set_option maxRecDepth 100000 in
theorem k_ohas (l : Launch) (n : Nat) (hn : n ≤ 3) (va le mi co fr : Nat → Int64) (k : Int32) : xM l yX6_has cX6_has 2 (some .boolean) rX6_has [.ref 0, .int k] [.inr (4, [.ref 1, .ref 2, .ref 3, .ref 4, .ref 5, .int (nI n)]), .inl (3, .inr (.inl (va))), .inl (9, .inr (.inl (le))), .inl (9, .inr (.inl (mi))), .inl (9, .inr (.inl (co))), .inl (3, .inr (.inl (fr)))] (fun r G => r = some (.int (bI (decide (0 ≤ k.toInt ∧ k.toInt < n)))) ∧ G = [.inr (4, [.ref 1, .ref 2, .ref 3, .ref 4, .ref 5, .int (nI n)]), .inl (3, .inr (.inl (va))), .inl (9, .inr (.inl (le))), .inl (9, .inr (.inl (mi))), .inl (9, .inr (.inl (co))), .inl (3, .inr (.inl (fr)))]) := by
  refine xM.of (by decide) (Nat.le_of_ble_eq_true rfl) (fun X hX => ?_)
  refine hX.run (ft := ftX6) (ct := ctX6) (oc := []) kX6_has_ok ftX6_ok ctX6_ok xnoc [] [] [] 100 ?_
  have z0 : (0 : Int32).toInt = 0 := rfl
  refine ⟨fun h => ?_, fun h => ?_⟩
  · rw [Int32.lt_iff_toInt_lt, z0] at h
    rw [decide_eq_false (by omega)]
    exact ⟨rfl, rfl, rfl⟩
  rw [Int32.lt_iff_toInt_lt, z0] at h
  refine ⟨fun h2 => ?_, fun h2 => ?_⟩
  · rw [Int32.le_iff_toInt_le, nI_toInt (by omega)] at h2
    rw [decide_eq_false (by omega)]
    exact ⟨rfl, rfl, rfl⟩
  · rw [Int32.le_iff_toInt_le, nI_toInt (by omega)] at h2
    rw [decide_eq_true (by omega)]
    exact ⟨rfl, rfl, rfl⟩
set_option maxHeartbeats 4000000 in
set_option maxRecDepth 100000 in
theorem k_oval (l : Launch) (n : Nat) (hn : n ≤ 3) (va le mi co fr : Nat → Int64) (a : Nat) (ha : a < n) : xM l yX6_value cX6_value 2 (some .long) rX6_value [.ref 0, .int (nI a)] [.inr (4, [.ref 1, .ref 2, .ref 3, .ref 4, .ref 5, .int (nI n)]), .inl (3, .inr (.inl (va))), .inl (9, .inr (.inl (le))), .inl (9, .inr (.inl (mi))), .inl (9, .inr (.inl (co))), .inl (3, .inr (.inl (fr)))] (fun r G => r = some (.long (va a)) ∧ G = [.inr (4, [.ref 1, .ref 2, .ref 3, .ref 4, .ref 5, .int (nI n)]), .inl (3, .inr (.inl (va))), .inl (9, .inr (.inl (le))), .inl (9, .inr (.inl (mi))), .inl (9, .inr (.inl (co))), .inl (3, .inr (.inl (fr)))]) := by
  refine xM.of (by decide) (Nat.le_of_ble_eq_true rfl) (fun X hX => ?_)
  refine hX.run (ft := ftX6) (ct := ctX6) (oc := []) kX6_value_ok ftX6_ok ctX6_ok xnoc [] [] [] 100 ?_
  refine hX.callV [0, 1, 2, 3, 4, 5] [] (k_ohas l n hn va le mi co fr (nI a)) yX6_has_ok lkX6_31 ivX6_has slX6_has ⟨rfl, rfl, by decide, by decide⟩ (kX6_value_ok.at 2 rfl) rfl rfl (by decide) rfl rfl rfl ⟨rfl, rfl, rfl, rfl, rfl, rfl, trivial⟩ rfl (fun _ _ q => by rw [q.2]) (fun r9 G1 q => ?_)
  obtain ⟨rfl, rfl⟩ := q
  refine hX.run (ft := ftX6) (ct := ctX6) (oc := []) kX6_value_ok ftX6_ok ctX6_ok xnoc [] [] [22] 100 ?_
  have e1 : (nI a).toInt = (a : Int) := nI_toInt (by omega)
  have hb : decide (0 ≤ (nI a).toInt ∧ (nI a).toInt < n) = true := decide_eq_true (by omega)
  refine ⟨fun h => ?_, fun _ => ?_⟩
  · rw [hb] at h
    exact absurd h (by decide)
  refine ⟨fun h => absurd h (nI_ge (b := 3) (by omega) (by omega)), fun _ => ?_⟩
  refine ⟨a, rfl, by omega, by omega, ?_⟩
  exact ⟨rfl, rfl⟩
def rsum (x : Nat → Int) (i : Nat) : Int := ((x (3 * i)).natAbs : Int) + ((x (3 * i + 1)).natAbs : Int) + ((x (3 * i + 2)).natAbs : Int)
def wmx (x : Nat → Int) : Nat → Int
  | 0 => 0
  | i + 1 => if rsum x i < wmx x i then wmx x i else rsum x i
theorem zl_abs {z : Int} (hz : jr z) : (if 0 < zl z then zl z else - zl z) = zl (z.natAbs : Int) := by
  have e : (0 < zl z) ↔ 0 < z := zl_lt (a := 0) ⟨by omega, by omega⟩ hz
  by_cases h : 0 < z
  · rw [if_pos (e.mpr h), show ((z.natAbs : Nat) : Int) = z by omega]
  · rw [if_neg (fun q => h (e.mp q)), zl_neg, show ((z.natAbs : Nat) : Int) = -z by omega]
theorem rsum_bd {x : Nat → Int} (hx : ∀ i, i < 9 → ab (x i) 500) {i : Nat} (hi : i < 3) : 0 ≤ rsum x i ∧ rsum x i ≤ 1500 := by
  have h0 := hx (3 * i) (by omega)
  have h1 := hx (3 * i + 1) (by omega)
  have h2 := hx (3 * i + 2) (by omega)
  unfold rsum
  have := h0.1; have := h0.2; have := h1.1; have := h1.2; have := h2.1; have := h2.2
  omega
theorem wmx_bd {x : Nat → Int} (hx : ∀ i, i < 9 → ab (x i) 500) : ∀ {i : Nat}, i ≤ 3 → 0 ≤ wmx x i ∧ wmx x i ≤ 1500
  | 0, _ => ⟨by show (0 : Int) ≤ 0; omega, by show (0 : Int) ≤ 1500; omega⟩
  | i + 1, hi => by
    have h1 := wmx_bd hx (i := i) (by omega)
    have h2 := rsum_bd hx (i := i) (by omega)
    unfold wmx
    split
    · exact h1
    · exact h2
set_option maxHeartbeats 4000000 in
set_option maxRecDepth 100000 in
theorem k_widest (l : Launch) (x : Nat → Int) (hx : ∀ i, i < 9 → ab (x i) 500) : xM l yX6_widestRow cX6_widestRow 6 (some .long) rX6_widestRow [.ref 0] [.inl (9, .inr (.inl (fun i => zl (x i))))] (fun r G => r = some (.long (zl (wmx x 3))) ∧ G = [.inl (9, .inr (.inl (fun i => zl (x i))))]) := by
  refine xM.of (by decide) (Nat.le_of_ble_eq_true rfl) (fun X hX => ?_)
  have hoc := xoc1 (oAbs_ok hX (idx := 72) lmX6_72 (by decide)) (xoc1 (oMax_ok hX (idx := 76) lmX6_76 (by decide)) xnoc)
  have jx : ∀ i, i < 9 → jr (x i) := fun i hi => ab_jr (hx i hi) (by decide)
  have ev : ∀ i, i < 3 → (if 0 < zl (x (3 * i)) then zl (x (3 * i)) else - zl (x (3 * i))) + (if 0 < zl (x (3 * i + 1)) then zl (x (3 * i + 1)) else - zl (x (3 * i + 1))) + (if 0 < zl (x (3 * i + 2)) then zl (x (3 * i + 2)) else - zl (x (3 * i + 2))) = zl (rsum x i) := fun i hi => by
    rw [zl_abs (jx _ (by omega)), zl_abs (jx _ (by omega)), zl_abs (jx _ (by omega)), zl_add, zl_add]
    rfl
  have ew : ∀ i, i < 3 → ∀ v w : Int64, v = zl (rsum x i) → w = zl (wmx x i) → (if v < w then w else v) = zl (wmx x (i + 1)) := by
    rintro i hi _ _ rfl rfl
    have h1 := wmx_bd hx (i := i) (by omega)
    have h2 := rsum_bd hx (i := i) hi
    have e := zl_lt (a := rsum x i) (b := wmx x i) ⟨by omega, by omega⟩ ⟨by omega, by omega⟩
    rw [show wmx x (i + 1) = if rsum x i < wmx x i then wmx x i else rsum x i from rfl]
    by_cases h : rsum x i < wmx x i
    · rw [if_pos (e.mpr h), if_pos h]
    · rw [if_neg (fun q => h (e.mp q)), if_neg h]
  have s3 : ∀ w : Int64, w = zl (wmx x 3) → X 4 [some (.ref 0), some (.long w), none, some (.int (nI 3)), none, none] [] [.inl (9, .inr (.inl (fun i => zl (x i))))] := by
    rintro _ rfl
    refine hX.run (ft := ftX6) (ct := ctX6) (oc := [(145, oAbs), (153, oMax)]) kX6_widestRow_ok ftX6_ok ctX6_ok hoc [] [6] [] 100 ?_
    exact ⟨rfl, rfl⟩
  have s2 : ∀ w : Int64, w = zl (wmx x 2) → X 4 [some (.ref 0), some (.long w), none, some (.int (nI 2)), none, none] [] [.inl (9, .inr (.inl (fun i => zl (x i))))] := by
    intro w hw
    refine hX.run (ft := ftX6) (ct := ctX6) (oc := [(145, oAbs), (153, oMax)]) kX6_widestRow_ok ftX6_ok ctX6_ok hoc [4] [6] [] 100 ?_
    exact hX.less (s3 _ (ew 2 (by omega) _ _ (ev 2 (by omega)) hw)) ⟨rfl, rfl, rfl, trivial⟩
  have s1 : ∀ w : Int64, w = zl (wmx x 1) → X 4 [some (.ref 0), some (.long w), none, some (.int (nI 1)), none, none] [] [.inl (9, .inr (.inl (fun i => zl (x i))))] := by
    intro w hw
    refine hX.run (ft := ftX6) (ct := ctX6) (oc := [(145, oAbs), (153, oMax)]) kX6_widestRow_ok ftX6_ok ctX6_ok hoc [4] [6] [] 100 ?_
    exact hX.less (s2 _ (ew 1 (by omega) _ _ (ev 1 (by omega)) hw)) ⟨rfl, rfl, rfl, trivial⟩
  have s0 : ∀ w : Int64, w = zl (wmx x 0) → X 4 [some (.ref 0), some (.long w), none, some (.int (nI 0)), none, none] [] [.inl (9, .inr (.inl (fun i => zl (x i))))] := by
    intro w hw
    refine hX.run (ft := ftX6) (ct := ctX6) (oc := [(145, oAbs), (153, oMax)]) kX6_widestRow_ok ftX6_ok ctX6_ok hoc [4] [6] [] 100 ?_
    exact hX.less (s1 _ (ew 0 (by omega) _ _ (ev 0 (by omega)) hw)) ⟨rfl, rfl, rfl, trivial⟩
  refine hX.run (ft := ftX6) (ct := ctX6) (oc := [(145, oAbs), (153, oMax)]) kX6_widestRow_ok ftX6_ok ctX6_ok hoc [4] [6] [] 100 ?_
  exact s0 _ rfl
def tr3 (x : Nat → Int) : Int := x 0 + x 4 + x 8
def chrE (x : Nat → Int) (z : Int) : Int := ((z - tr3 x) * z + tr3 (adj9 x)) * z
def mst (x : Nat → Int) : Int := if 1500 < wmx x 3 then 1500 else wmx x 3
def scn (x : Nat → Int) : Nat → Int → Nat → (Nat → Int) → Nat × (Nat → Int)
  | 0, _, n, v => (n, v)
  | d + 1, z, n, v => if 3 ≤ n then (n, v) else if chrE x z = det9 x then scn x d (z + 1) (n + 1) (fun i => if i = n then z else v i) else scn x d (z + 1) n v
/-- the own values that the class finds -/
def ovs (x : Nat → Int) : Nat × (Nat → Int) := scn x (2 * mst x + 1).toNat (- mst x) 0 (fun _ => 0)
theorem scn_n {x : Nat → Int} : ∀ {d : Nat} {z : Int} {n : Nat} {v : Nat → Int}, n ≤ 3 → (scn x d z n v).1 ≤ 3
  | 0, z, n, v, h => h
  | d + 1, z, n, v, h => by
    unfold scn
    split
    · exact h
    · split
      · exact scn_n (by omega)
      · exact scn_n h
theorem scn_in {x : Nat → Int} : ∀ {d : Nat} {z : Int} {n : Nat} {v : Nat → Int}, (∀ i, i < n → -1500 ≤ v i ∧ v i ≤ 1500) → -1500 ≤ z → z + d ≤ 1501 → ∀ i, i < (scn x d z n v).1 → -1500 ≤ (scn x d z n v).2 i ∧ (scn x d z n v).2 i ≤ 1500
  | 0, z, n, v, h, _, _ => h
  | d + 1, z, n, v, h, h1, h2 => by
    unfold scn
    split
    · exact h
    · split
      · refine scn_in (fun i hi => ?_) (by omega) (by omega)
        try dsimp only
        by_cases e : i = n
        · rw [if_pos e]; omega
        · rw [if_neg e]; exact h i (by omega)
      · exact scn_in h (by omega) (by omega)
set_option maxHeartbeats 4000000 in
set_option maxRecDepth 100000 in
theorem k_ofind (l : Launch) (x : Nat → Int) (hx : ∀ i, i < 9 → ab (x i) 500) (n : Int32) (va le mi co fr : Nat → Int64) : xM l yX6_find cX6_find 12 (none : Option FieldType) rX6_find [.ref 0, .ref 6] [.inr (4, [.ref 1, .ref 2, .ref 3, .ref 4, .ref 5, .int (n)]), .inl (3, .inr (.inl (va))), .inl (9, .inr (.inl (le))), .inl (9, .inr (.inl (mi))), .inl (9, .inr (.inl (co))), .inl (3, .inr (.inl (fr))), .inl (9, .inr (.inl (fun i => zl (x i))))] (fun r G => ∃ va', r = none ∧ (∀ i, i < (ovs x).1 → va' i = zl ((ovs x).2 i)) ∧ G = [.inr (4, [.ref 1, .ref 2, .ref 3, .ref 4, .ref 5, .int (nI (ovs x).1)]), .inl (3, .inr (.inl (va'))), .inl (9, .inr (.inl (le))), .inl (9, .inr (.inl (fun i => zl (adj9 x i)))), .inl (9, .inr (.inl (co))), .inl (3, .inr (.inl (fr))), .inl (9, .inr (.inl (fun i => zl (x i))))]) := by
  refine xM.of (by decide) (Nat.le_of_ble_eq_true rfl) (fun X hX => ?_)
  have hoc := xoc1 (oMin_ok hX (idx := 53) lmX6_53 (by decide)) xnoc
  have hw := wmx_bd hx (i := 3) (by omega)
  have hm : 0 ≤ mst x ∧ mst x ≤ 1500 := by unfold mst; split <;> omega
  have jm : jr (mst x) := ⟨by omega, by omega⟩
  have bt : ab (tr3 x) 1500 := ab_le (ab_add (ab_add (hx 0 (by omega)) (hx 4 (by omega))) (hx 8 (by omega))) (by decide)
  have ba : ab (tr3 (adj9 x)) 1500000 := ab_le (ab_add (ab_add (adj9_bd hx 0) (adj9_bd hx 4)) (adj9_bd hx 8)) (by decide)
  have bd : ab (det9 x) 48000000000 := det9_bd (fun i hi => ab_le (hx i hi) (by decide))
  have jd : jr (det9 x) := ab_jr bd (by decide)
  have main : ∀ (d : Nat) (z : Int) (k : Nat) (v : Nat → Int) (va : Nat → Int64) (w : Int64), z + d = mst x + 1 → -1500 ≤ z → k ≤ 3 → (∀ i, i < k → va i = zl (v i)) → ovs x = scn x d z k v → w = zl z → X 50 [some (.ref 0), some (.ref 6), some (.long (zl (tr3 x))), none, some (.long (zl (tr3 (adj9 x)))), none, some (.long (zl (det9 x))), none, some (.long (zl (mst x))), none, some (.long w), none] [] [.inr (4, [.ref 1, .ref 2, .ref 3, .ref 4, .ref 5, .int (nI k)]), .inl (3, .inr (.inl (va))), .inl (9, .inr (.inl (le))), .inl (9, .inr (.inl (fun i => zl (adj9 x i)))), .inl (9, .inr (.inl (co))), .inl (3, .inr (.inl (fr))), .inl (9, .inr (.inl (fun i => zl (x i))))] := by
    intro d
    induction d with
    | zero =>
      rintro z k v va _ hz h15 hk hv ho rfl
      refine hX.run (ft := ftX6) (ct := ctX6) (oc := [(107, oMin)]) kX6_find_ok ftX6_ok ctX6_ok hoc [] [] [] 80 ?_
      refine ⟨fun _ => ?_, fun h => ?_⟩
      · rw [ho]
        exact ⟨va, rfl, hv, rfl⟩
      · exfalso
        apply h
        apply lgc_gt.mpr
        show zl (mst x) < zl z
        rw [zl_lt jm ⟨by omega, by omega⟩]
        omega
    | succ d ih =>
      rintro z k v va _ hz h15 hk hv ho rfl
      have jz : jr z := ⟨by omega, by omega⟩
      have bz : ab z 1500 := ⟨by omega, by omega⟩
      have jc : jr (chrE x z) := ab_jr (ab_mul (ab_add (ab_mul (ab_sub bz bt) bz) ba) bz) (by decide)
      have ec : ((zl z - zl (tr3 x)) * zl z + zl (tr3 (adj9 x))) * zl z = zl (chrE x z) := by
        simp only [zl_sub, zl_mul, zl_add]
        rfl
      have ez : zl z + Int64.ofNat ((1 : Fin 2) : Nat) = zl (z + 1) := zl_add z 1
      refine hX.run (ft := ftX6) (ct := ctX6) (oc := [(107, oMin)]) kX6_find_ok ftX6_ok ctX6_ok hoc [50] [] [99] 80 ?_
      refine ⟨fun h => ?_, fun _ => ?_⟩
      · exfalso
        have h1 : zl (mst x) < zl z := lgc_gt.mp h
        rw [zl_lt jm jz] at h1
        omega
      refine ⟨fun h => ?_, fun h => ?_⟩
      · have h3 : 3 ≤ k := by
          have h4 : nI 3 ≤ nI k := h
          rwa [nI_leI (by omega) (by omega)] at h4
        have e : scn x (d + 1) z k v = (k, v) := by rw [scn, if_pos h3]
        rw [ho, e]
        exact ⟨va, rfl, hv, rfl⟩
      have h3 : ¬ 3 ≤ k := fun q => h (nI_le q (by omega))
      refine ⟨fun h => ?_, fun h => ?_⟩
      · have g : chrE x z = det9 x := lce h ec rfl jc jd
        refine ⟨k, rfl, by omega, by omega, ?_⟩
        have := ih (z + 1) (k + 1) (fun i => if i = k then z else v i) (vp_updL va k (zl z)) _ (by omega) (by omega) (by omega) (fun i hi => by
          unfold vp_updL
          try dsimp only
          by_cases e : i = k
          · rw [if_pos e, if_pos e]
          · rw [if_neg e, if_neg e]; exact hv i (by omega)) (by rw [ho, scn, if_neg h3, if_pos g]) ez
        rw [← nI_1 k] at this
        exact this
      · have g : ¬ chrE x z = det9 x := lcn h ec rfl
        exact ih (z + 1) k v va _ (by omega) (by omega) hk hv (by rw [ho, scn, if_neg h3, if_neg g]) ez
  refine hX.run (ft := ftX6) (ct := ctX6) (oc := [(107, oMin)]) kX6_find_ok ftX6_ok ctX6_ok hoc [] [] [] 80 ?_
  refine hX.callS [6, 3] [] (k_adjugate l x mi) yX9_adjugate_ok lkX6_35 ssX9_adjugate ⟨rfl, rfl, by decide, by decide⟩ (kX6_find_ok.at 10 rfl) rfl rfl (by decide) ⟨rfl, rfl, trivial⟩ rfl (fun _ _ q => by rw [q.2]; rfl) (fun r9 G1 q => ?_)
  obtain ⟨rfl, rfl⟩ := q
  refine hX.run (ft := ftX6) (ct := ctX6) (oc := [(107, oMin)]) kX6_find_ok ftX6_ok ctX6_ok hoc [] [] [] 80 ?_
  refine hX.callS [6] [] (k_trace l x) yX9_trace_ok lkX6_41 ssX9_trace ⟨rfl, rfl, by decide, by decide⟩ (kX6_find_ok.at 14 rfl) rfl rfl (by decide) ⟨rfl, trivial⟩ rfl (fun _ _ q => by rw [q.2]) (fun r9 G1 q => ?_)
  obtain ⟨rfl, rfl⟩ := q
  refine hX.run (ft := ftX6) (ct := ctX6) (oc := [(107, oMin)]) kX6_find_ok ftX6_ok ctX6_ok hoc [] [] [] 80 ?_
  refine hX.callS [3] [] (k_trace l (adj9 x)) yX9_trace_ok lkX6_41 ssX9_trace ⟨rfl, rfl, by decide, by decide⟩ (kX6_find_ok.at 22 rfl) rfl rfl (by decide) ⟨rfl, trivial⟩ rfl (fun _ _ q => by rw [q.2]) (fun r9 G1 q => ?_)
  obtain ⟨rfl, rfl⟩ := q
  refine hX.run (ft := ftX6) (ct := ctX6) (oc := [(107, oMin)]) kX6_find_ok ftX6_ok ctX6_ok hoc [] [] [] 80 ?_
  refine hX.callS [6] [] (k_determinant l x) yX9_determinant_ok lkX6_45 ssX9_determinant ⟨rfl, rfl, by decide, by decide⟩ (kX6_find_ok.at 28 rfl) rfl rfl (by decide) ⟨rfl, trivial⟩ rfl (fun _ _ q => by rw [q.2]) (fun r9 G1 q => ?_)
  obtain ⟨rfl, rfl⟩ := q
  refine hX.run (ft := ftX6) (ct := ctX6) (oc := [(107, oMin)]) kX6_find_ok ftX6_ok ctX6_ok hoc [] [] [] 80 ?_
  refine hX.callS [6] [] (k_widest l x hx) yX6_widestRow_ok lkX6_48 ssX6_widestRow ⟨rfl, rfl, by decide, by decide⟩ (kX6_find_ok.at 34 rfl) rfl rfl (by decide) ⟨rfl, trivial⟩ rfl (fun _ _ q => by rw [q.2]) (fun r9 G1 q => ?_)
  obtain ⟨rfl, rfl⟩ := q
  have em : (if (1500 : Int64) < zl (wmx x 3) then (1500 : Int64) else zl (wmx x 3)) = zl (mst x) := by
    have e0 : (1500 : Int64) = zl 1500 := rfl
    have e := zl_lt (a := 1500) (b := wmx x 3) ⟨by omega, by omega⟩ ⟨by omega, by omega⟩
    rw [e0]
    unfold mst
    by_cases h : 1500 < wmx x 3
    · rw [if_pos (e.mpr h), if_pos h]
    · rw [if_neg (fun q => h (e.mp q)), if_neg h]
  have start : ∀ w : Int64, w = zl (mst x) → X 45 [some (.ref 0), some (.ref 6), some (.long (zl (tr3 x))), none, some (.long (zl (tr3 (adj9 x)))), none, some (.long (zl (det9 x))), none, some (.long w), none, none, none] [] [.inr (4, [.ref 1, .ref 2, .ref 3, .ref 4, .ref 5, .int (nI 0)]), .inl (3, .inr (.inl (va))), .inl (9, .inr (.inl (le))), .inl (9, .inr (.inl (fun i => zl (adj9 x i)))), .inl (9, .inr (.inl (co))), .inl (3, .inr (.inl (fr))), .inl (9, .inr (.inl (fun i => zl (x i))))] := by
    rintro _ rfl
    have := main (2 * mst x + 1).toNat (- mst x) 0 (fun _ => 0) va (- zl (mst x)) (by omega) (by omega) (by omega) (fun i hi => absurd hi (Nat.not_lt_zero i)) rfl (zl_neg _)
    refine hX.run (ft := ftX6) (ct := ctX6) (oc := [(107, oMin)]) kX6_find_ok ftX6_ok ctX6_ok hoc [50] [] [] 80 ?_
    exact this
  refine hX.run (ft := ftX6) (ct := ctX6) (oc := [(107, oMin)]) kX6_find_ok ftX6_ok ctX6_ok hoc [45] [] [] 80 ?_
  exact start _ em
def tkr (m : Nat → Int) : Option (Nat → Int) := if nz3 (rw3 m 0) then some (rw3 m 0) else if nz3 (rw3 m 1) then some (rw3 m 1) else if nz3 (rw3 m 2) then some (rw3 m 2) else none
set_option maxHeartbeats 4000000 in
set_option maxRecDepth 100000 in
theorem k_take4 (l : Launch) (n : Int32) (va le mi co fr : Nat → Int64) (m : Nat → Int) (hm : ∀ i, i < 9 → jr (m i)) : xM l yX6_takeRow cX6_takeRow 3 (some .boolean) rX6_takeRow [.ref 0, .ref 4] [.inr (4, [.ref 1, .ref 2, .ref 3, .ref 4, .ref 5, .int (n)]), .inl (3, .inr (.inl (va))), .inl (9, .inr (.inl (le))), .inl (9, .inr (.inl (mi))), .inl (9, .inr (.inl (fun i => zl (m i)))), .inl (3, .inr (.inl (fr)))] (fun r G => (∃ f, tkr m = some f ∧ r = some (.int 1) ∧ G = [.inr (4, [.ref 1, .ref 2, .ref 3, .ref 4, .ref 5, .int (n)]), .inl (3, .inr (.inl (va))), .inl (9, .inr (.inl (le))), .inl (9, .inr (.inl (mi))), .inl (9, .inr (.inl (fun i => zl (m i)))), .inl (3, .inr (.inl (fun i => zl (f i))))]) ∨ (tkr m = none ∧ r = some (.int 0) ∧ G = [.inr (4, [.ref 1, .ref 2, .ref 3, .ref 4, .ref 5, .int (n)]), .inl (3, .inr (.inl (va))), .inl (9, .inr (.inl (le))), .inl (9, .inr (.inl (mi))), .inl (9, .inr (.inl (fun i => zl (m i)))), .inl (3, .inr (.inl (fr)))])) := by
  refine xM.of (by decide) (Nat.le_of_ble_eq_true rfl) (fun X hX => ?_)
  have hoc := xoc1 (oCopy_ok hX (idx := 59) cpX6_59 (by decide)) xnoc
  have j0 : jr 0 := ⟨by omega, by omega⟩
  have s3 : tkr m = none → X 2 [some (.ref 0), some (.ref 4), some (.int (nI 3))] [] [.inr (4, [.ref 1, .ref 2, .ref 3, .ref 4, .ref 5, .int (n)]), .inl (3, .inr (.inl (va))), .inl (9, .inr (.inl (le))), .inl (9, .inr (.inl (mi))), .inl (9, .inr (.inl (fun i => zl (m i)))), .inl (3, .inr (.inl (fr)))] := by
    intro h
    refine hX.run (ft := ftX6) (ct := ctX6) (oc := [(119, oCopy)]) kX6_takeRow_ok ftX6_ok ctX6_ok hoc [] [4] [] 80 ?_
    exact ⟨rfl, Or.inr ⟨h, rfl, rfl⟩⟩
  have c2 : nz3 (rw3 m 0) = false → nz3 (rw3 m 1) = false → nz3 (rw3 m 2) = true → X 41 [some (.ref 0), some (.ref 4), some (.int (nI 2))] [] [.inr (4, [.ref 1, .ref 2, .ref 3, .ref 4, .ref 5, .int (n)]), .inl (3, .inr (.inl (va))), .inl (9, .inr (.inl (le))), .inl (9, .inr (.inl (mi))), .inl (9, .inr (.inl (fun i => zl (m i)))), .inl (3, .inr (.inl (fr)))] := by
    intro n0 n1 hn
    have ht : tkr m = some (rw3 m 2) := by
      unfold tkr
      rw [n0, n1, hn]
      rfl
    refine hX.run (ft := ftX6) (ct := ctX6) (oc := [(119, oCopy)]) kX6_takeRow_ok ftX6_ok ctX6_ok hoc [54] [4] [] 80 ?_
    refine hX.alike (G2 := [.inr (4, [.ref 1, .ref 2, .ref 3, .ref 4, .ref 5, .int (n)]), .inl (3, .inr (.inl (va))), .inl (9, .inr (.inl (le))), .inl (9, .inr (.inl (mi))), .inl (9, .inr (.inl (fun i => zl (m i)))), .inl (3, .inr (.inl (fun i => zl (rw3 m 2 i))))]) ?_ ⟨xsame_rf _, xsame_rf _, xsame_rf _, xsame_rf _, xsame_rf _, ⟨rfl, fun i hi => ?_⟩, trivial⟩
    · refine hX.run (ft := ftX6) (ct := ctX6) (oc := [(119, oCopy)]) kX6_takeRow_ok ftX6_ok ctX6_ok hoc [] [4] [] 80 ?_
      exact ⟨rfl, Or.inl ⟨_, ht, rfl, rfl⟩⟩
    · rcases (show i = 0 ∨ i = 1 ∨ i = 2 by omega) with rfl | rfl | rfl <;> rfl
  have s2 : nz3 (rw3 m 0) = false → nz3 (rw3 m 1) = false → X 2 [some (.ref 0), some (.ref 4), some (.int (nI 2))] [] [.inr (4, [.ref 1, .ref 2, .ref 3, .ref 4, .ref 5, .int (n)]), .inl (3, .inr (.inl (va))), .inl (9, .inr (.inl (le))), .inl (9, .inr (.inl (mi))), .inl (9, .inr (.inl (fun i => zl (m i)))), .inl (3, .inr (.inl (fr)))] := by
    intro n0 n1
    refine hX.run (ft := ftX6) (ct := ctX6) (oc := [(119, oCopy)]) kX6_takeRow_ok ftX6_ok ctX6_ok hoc [2, 41] [4] [] 80 ?_
    refine ⟨fun h => ?_, fun h => ?_⟩
    rotate_left
    · exact c2 n0 n1 (nz3_t (Or.inl (lcn h rfl rfl : ¬ rw3 m 2 0 = 0)))
    have z0 : rw3 m 2 0 = 0 := lce h rfl rfl (hm 6 (by omega)) j0
    refine ⟨fun h => ?_, fun h => ?_⟩
    rotate_left
    · exact c2 n0 n1 (nz3_t (Or.inr (Or.inl (lcn h rfl rfl : ¬ rw3 m 2 1 = 0))))
    have z1 : rw3 m 2 1 = 0 := lce h rfl rfl (hm 7 (by omega)) j0
    refine ⟨fun h => ?_, fun h => ?_⟩
    rotate_left
    · exact c2 n0 n1 (nz3_t (Or.inr (Or.inr (lcn h rfl rfl : ¬ rw3 m 2 2 = 0))))
    have z2 : rw3 m 2 2 = 0 := lce h rfl rfl (hm 8 (by omega)) j0
    have hz := nz3_f.mpr ⟨z0, z1, z2⟩
    exact s3 (by unfold tkr; rw [n0, n1, hz]; rfl)
  have c1 : nz3 (rw3 m 0) = false → nz3 (rw3 m 1) = true → X 41 [some (.ref 0), some (.ref 4), some (.int (nI 1))] [] [.inr (4, [.ref 1, .ref 2, .ref 3, .ref 4, .ref 5, .int (n)]), .inl (3, .inr (.inl (va))), .inl (9, .inr (.inl (le))), .inl (9, .inr (.inl (mi))), .inl (9, .inr (.inl (fun i => zl (m i)))), .inl (3, .inr (.inl (fr)))] := by
    intro n0 hn
    have ht : tkr m = some (rw3 m 1) := by
      unfold tkr
      rw [n0, hn]
      rfl
    refine hX.run (ft := ftX6) (ct := ctX6) (oc := [(119, oCopy)]) kX6_takeRow_ok ftX6_ok ctX6_ok hoc [54] [4] [] 80 ?_
    refine hX.alike (G2 := [.inr (4, [.ref 1, .ref 2, .ref 3, .ref 4, .ref 5, .int (n)]), .inl (3, .inr (.inl (va))), .inl (9, .inr (.inl (le))), .inl (9, .inr (.inl (mi))), .inl (9, .inr (.inl (fun i => zl (m i)))), .inl (3, .inr (.inl (fun i => zl (rw3 m 1 i))))]) ?_ ⟨xsame_rf _, xsame_rf _, xsame_rf _, xsame_rf _, xsame_rf _, ⟨rfl, fun i hi => ?_⟩, trivial⟩
    · refine hX.run (ft := ftX6) (ct := ctX6) (oc := [(119, oCopy)]) kX6_takeRow_ok ftX6_ok ctX6_ok hoc [] [4] [] 80 ?_
      exact ⟨rfl, Or.inl ⟨_, ht, rfl, rfl⟩⟩
    · rcases (show i = 0 ∨ i = 1 ∨ i = 2 by omega) with rfl | rfl | rfl <;> rfl
  have s1 : nz3 (rw3 m 0) = false → X 2 [some (.ref 0), some (.ref 4), some (.int (nI 1))] [] [.inr (4, [.ref 1, .ref 2, .ref 3, .ref 4, .ref 5, .int (n)]), .inl (3, .inr (.inl (va))), .inl (9, .inr (.inl (le))), .inl (9, .inr (.inl (mi))), .inl (9, .inr (.inl (fun i => zl (m i)))), .inl (3, .inr (.inl (fr)))] := by
    intro n0
    refine hX.run (ft := ftX6) (ct := ctX6) (oc := [(119, oCopy)]) kX6_takeRow_ok ftX6_ok ctX6_ok hoc [2, 41] [4] [] 80 ?_
    refine ⟨fun h => ?_, fun h => ?_⟩
    rotate_left
    · exact c1 n0 (nz3_t (Or.inl (lcn h rfl rfl : ¬ rw3 m 1 0 = 0)))
    have z0 : rw3 m 1 0 = 0 := lce h rfl rfl (hm 3 (by omega)) j0
    refine ⟨fun h => ?_, fun h => ?_⟩
    rotate_left
    · exact c1 n0 (nz3_t (Or.inr (Or.inl (lcn h rfl rfl : ¬ rw3 m 1 1 = 0))))
    have z1 : rw3 m 1 1 = 0 := lce h rfl rfl (hm 4 (by omega)) j0
    refine ⟨fun h => ?_, fun h => ?_⟩
    rotate_left
    · exact c1 n0 (nz3_t (Or.inr (Or.inr (lcn h rfl rfl : ¬ rw3 m 1 2 = 0))))
    have z2 : rw3 m 1 2 = 0 := lce h rfl rfl (hm 5 (by omega)) j0
    have hz := nz3_f.mpr ⟨z0, z1, z2⟩
    exact s2 n0 hz
  have c0 : nz3 (rw3 m 0) = true → X 41 [some (.ref 0), some (.ref 4), some (.int (nI 0))] [] [.inr (4, [.ref 1, .ref 2, .ref 3, .ref 4, .ref 5, .int (n)]), .inl (3, .inr (.inl (va))), .inl (9, .inr (.inl (le))), .inl (9, .inr (.inl (mi))), .inl (9, .inr (.inl (fun i => zl (m i)))), .inl (3, .inr (.inl (fr)))] := by
    intro  hn
    have ht : tkr m = some (rw3 m 0) := by
      unfold tkr
      rw [hn]
      rfl
    refine hX.run (ft := ftX6) (ct := ctX6) (oc := [(119, oCopy)]) kX6_takeRow_ok ftX6_ok ctX6_ok hoc [54] [4] [] 80 ?_
    refine hX.alike (G2 := [.inr (4, [.ref 1, .ref 2, .ref 3, .ref 4, .ref 5, .int (n)]), .inl (3, .inr (.inl (va))), .inl (9, .inr (.inl (le))), .inl (9, .inr (.inl (mi))), .inl (9, .inr (.inl (fun i => zl (m i)))), .inl (3, .inr (.inl (fun i => zl (rw3 m 0 i))))]) ?_ ⟨xsame_rf _, xsame_rf _, xsame_rf _, xsame_rf _, xsame_rf _, ⟨rfl, fun i hi => ?_⟩, trivial⟩
    · refine hX.run (ft := ftX6) (ct := ctX6) (oc := [(119, oCopy)]) kX6_takeRow_ok ftX6_ok ctX6_ok hoc [] [4] [] 80 ?_
      exact ⟨rfl, Or.inl ⟨_, ht, rfl, rfl⟩⟩
    · rcases (show i = 0 ∨ i = 1 ∨ i = 2 by omega) with rfl | rfl | rfl <;> rfl
  have s0 : X 2 [some (.ref 0), some (.ref 4), some (.int (nI 0))] [] [.inr (4, [.ref 1, .ref 2, .ref 3, .ref 4, .ref 5, .int (n)]), .inl (3, .inr (.inl (va))), .inl (9, .inr (.inl (le))), .inl (9, .inr (.inl (mi))), .inl (9, .inr (.inl (fun i => zl (m i)))), .inl (3, .inr (.inl (fr)))] := by
    refine hX.run (ft := ftX6) (ct := ctX6) (oc := [(119, oCopy)]) kX6_takeRow_ok ftX6_ok ctX6_ok hoc [2, 41] [4] [] 80 ?_
    refine ⟨fun h => ?_, fun h => ?_⟩
    rotate_left
    · exact c0  (nz3_t (Or.inl (lcn h rfl rfl : ¬ rw3 m 0 0 = 0)))
    have z0 : rw3 m 0 0 = 0 := lce h rfl rfl (hm 0 (by omega)) j0
    refine ⟨fun h => ?_, fun h => ?_⟩
    rotate_left
    · exact c0  (nz3_t (Or.inr (Or.inl (lcn h rfl rfl : ¬ rw3 m 0 1 = 0))))
    have z1 : rw3 m 0 1 = 0 := lce h rfl rfl (hm 1 (by omega)) j0
    refine ⟨fun h => ?_, fun h => ?_⟩
    rotate_left
    · exact c0  (nz3_t (Or.inr (Or.inr (lcn h rfl rfl : ¬ rw3 m 0 2 = 0))))
    have z2 : rw3 m 0 2 = 0 := lce h rfl rfl (hm 2 (by omega)) j0
    have hz := nz3_f.mpr ⟨z0, z1, z2⟩
    exact s1  hz
  refine hX.run (ft := ftX6) (ct := ctX6) (oc := [(119, oCopy)]) kX6_takeRow_ok ftX6_ok ctX6_ok hoc [2] [4] [] 80 ?_
  exact s0
set_option maxHeartbeats 4000000 in
set_option maxRecDepth 100000 in
theorem k_take2 (l : Launch) (n : Int32) (va le mi co fr : Nat → Int64) (m : Nat → Int) (hm : ∀ i, i < 9 → jr (m i)) : xM l yX6_takeRow cX6_takeRow 3 (some .boolean) rX6_takeRow [.ref 0, .ref 2] [.inr (4, [.ref 1, .ref 2, .ref 3, .ref 4, .ref 5, .int (n)]), .inl (3, .inr (.inl (va))), .inl (9, .inr (.inl (fun i => zl (m i)))), .inl (9, .inr (.inl (mi))), .inl (9, .inr (.inl (co))), .inl (3, .inr (.inl (fr)))] (fun r G => (∃ f, tkr m = some f ∧ r = some (.int 1) ∧ G = [.inr (4, [.ref 1, .ref 2, .ref 3, .ref 4, .ref 5, .int (n)]), .inl (3, .inr (.inl (va))), .inl (9, .inr (.inl (fun i => zl (m i)))), .inl (9, .inr (.inl (mi))), .inl (9, .inr (.inl (co))), .inl (3, .inr (.inl (fun i => zl (f i))))]) ∨ (tkr m = none ∧ r = some (.int 0) ∧ G = [.inr (4, [.ref 1, .ref 2, .ref 3, .ref 4, .ref 5, .int (n)]), .inl (3, .inr (.inl (va))), .inl (9, .inr (.inl (fun i => zl (m i)))), .inl (9, .inr (.inl (mi))), .inl (9, .inr (.inl (co))), .inl (3, .inr (.inl (fr)))])) := by
  refine xM.of (by decide) (Nat.le_of_ble_eq_true rfl) (fun X hX => ?_)
  have hoc := xoc1 (oCopy_ok hX (idx := 59) cpX6_59 (by decide)) xnoc
  have j0 : jr 0 := ⟨by omega, by omega⟩
  have s3 : tkr m = none → X 2 [some (.ref 0), some (.ref 2), some (.int (nI 3))] [] [.inr (4, [.ref 1, .ref 2, .ref 3, .ref 4, .ref 5, .int (n)]), .inl (3, .inr (.inl (va))), .inl (9, .inr (.inl (fun i => zl (m i)))), .inl (9, .inr (.inl (mi))), .inl (9, .inr (.inl (co))), .inl (3, .inr (.inl (fr)))] := by
    intro h
    refine hX.run (ft := ftX6) (ct := ctX6) (oc := [(119, oCopy)]) kX6_takeRow_ok ftX6_ok ctX6_ok hoc [] [4] [] 80 ?_
    exact ⟨rfl, Or.inr ⟨h, rfl, rfl⟩⟩
  have c2 : nz3 (rw3 m 0) = false → nz3 (rw3 m 1) = false → nz3 (rw3 m 2) = true → X 41 [some (.ref 0), some (.ref 2), some (.int (nI 2))] [] [.inr (4, [.ref 1, .ref 2, .ref 3, .ref 4, .ref 5, .int (n)]), .inl (3, .inr (.inl (va))), .inl (9, .inr (.inl (fun i => zl (m i)))), .inl (9, .inr (.inl (mi))), .inl (9, .inr (.inl (co))), .inl (3, .inr (.inl (fr)))] := by
    intro n0 n1 hn
    have ht : tkr m = some (rw3 m 2) := by
      unfold tkr
      rw [n0, n1, hn]
      rfl
    refine hX.run (ft := ftX6) (ct := ctX6) (oc := [(119, oCopy)]) kX6_takeRow_ok ftX6_ok ctX6_ok hoc [54] [4] [] 80 ?_
    refine hX.alike (G2 := [.inr (4, [.ref 1, .ref 2, .ref 3, .ref 4, .ref 5, .int (n)]), .inl (3, .inr (.inl (va))), .inl (9, .inr (.inl (fun i => zl (m i)))), .inl (9, .inr (.inl (mi))), .inl (9, .inr (.inl (co))), .inl (3, .inr (.inl (fun i => zl (rw3 m 2 i))))]) ?_ ⟨xsame_rf _, xsame_rf _, xsame_rf _, xsame_rf _, xsame_rf _, ⟨rfl, fun i hi => ?_⟩, trivial⟩
    · refine hX.run (ft := ftX6) (ct := ctX6) (oc := [(119, oCopy)]) kX6_takeRow_ok ftX6_ok ctX6_ok hoc [] [4] [] 80 ?_
      exact ⟨rfl, Or.inl ⟨_, ht, rfl, rfl⟩⟩
    · rcases (show i = 0 ∨ i = 1 ∨ i = 2 by omega) with rfl | rfl | rfl <;> rfl
  have s2 : nz3 (rw3 m 0) = false → nz3 (rw3 m 1) = false → X 2 [some (.ref 0), some (.ref 2), some (.int (nI 2))] [] [.inr (4, [.ref 1, .ref 2, .ref 3, .ref 4, .ref 5, .int (n)]), .inl (3, .inr (.inl (va))), .inl (9, .inr (.inl (fun i => zl (m i)))), .inl (9, .inr (.inl (mi))), .inl (9, .inr (.inl (co))), .inl (3, .inr (.inl (fr)))] := by
    intro n0 n1
    refine hX.run (ft := ftX6) (ct := ctX6) (oc := [(119, oCopy)]) kX6_takeRow_ok ftX6_ok ctX6_ok hoc [2, 41] [4] [] 80 ?_
    refine ⟨fun h => ?_, fun h => ?_⟩
    rotate_left
    · exact c2 n0 n1 (nz3_t (Or.inl (lcn h rfl rfl : ¬ rw3 m 2 0 = 0)))
    have z0 : rw3 m 2 0 = 0 := lce h rfl rfl (hm 6 (by omega)) j0
    refine ⟨fun h => ?_, fun h => ?_⟩
    rotate_left
    · exact c2 n0 n1 (nz3_t (Or.inr (Or.inl (lcn h rfl rfl : ¬ rw3 m 2 1 = 0))))
    have z1 : rw3 m 2 1 = 0 := lce h rfl rfl (hm 7 (by omega)) j0
    refine ⟨fun h => ?_, fun h => ?_⟩
    rotate_left
    · exact c2 n0 n1 (nz3_t (Or.inr (Or.inr (lcn h rfl rfl : ¬ rw3 m 2 2 = 0))))
    have z2 : rw3 m 2 2 = 0 := lce h rfl rfl (hm 8 (by omega)) j0
    have hz := nz3_f.mpr ⟨z0, z1, z2⟩
    exact s3 (by unfold tkr; rw [n0, n1, hz]; rfl)
  have c1 : nz3 (rw3 m 0) = false → nz3 (rw3 m 1) = true → X 41 [some (.ref 0), some (.ref 2), some (.int (nI 1))] [] [.inr (4, [.ref 1, .ref 2, .ref 3, .ref 4, .ref 5, .int (n)]), .inl (3, .inr (.inl (va))), .inl (9, .inr (.inl (fun i => zl (m i)))), .inl (9, .inr (.inl (mi))), .inl (9, .inr (.inl (co))), .inl (3, .inr (.inl (fr)))] := by
    intro n0 hn
    have ht : tkr m = some (rw3 m 1) := by
      unfold tkr
      rw [n0, hn]
      rfl
    refine hX.run (ft := ftX6) (ct := ctX6) (oc := [(119, oCopy)]) kX6_takeRow_ok ftX6_ok ctX6_ok hoc [54] [4] [] 80 ?_
    refine hX.alike (G2 := [.inr (4, [.ref 1, .ref 2, .ref 3, .ref 4, .ref 5, .int (n)]), .inl (3, .inr (.inl (va))), .inl (9, .inr (.inl (fun i => zl (m i)))), .inl (9, .inr (.inl (mi))), .inl (9, .inr (.inl (co))), .inl (3, .inr (.inl (fun i => zl (rw3 m 1 i))))]) ?_ ⟨xsame_rf _, xsame_rf _, xsame_rf _, xsame_rf _, xsame_rf _, ⟨rfl, fun i hi => ?_⟩, trivial⟩
    · refine hX.run (ft := ftX6) (ct := ctX6) (oc := [(119, oCopy)]) kX6_takeRow_ok ftX6_ok ctX6_ok hoc [] [4] [] 80 ?_
      exact ⟨rfl, Or.inl ⟨_, ht, rfl, rfl⟩⟩
    · rcases (show i = 0 ∨ i = 1 ∨ i = 2 by omega) with rfl | rfl | rfl <;> rfl
  have s1 : nz3 (rw3 m 0) = false → X 2 [some (.ref 0), some (.ref 2), some (.int (nI 1))] [] [.inr (4, [.ref 1, .ref 2, .ref 3, .ref 4, .ref 5, .int (n)]), .inl (3, .inr (.inl (va))), .inl (9, .inr (.inl (fun i => zl (m i)))), .inl (9, .inr (.inl (mi))), .inl (9, .inr (.inl (co))), .inl (3, .inr (.inl (fr)))] := by
    intro n0
    refine hX.run (ft := ftX6) (ct := ctX6) (oc := [(119, oCopy)]) kX6_takeRow_ok ftX6_ok ctX6_ok hoc [2, 41] [4] [] 80 ?_
    refine ⟨fun h => ?_, fun h => ?_⟩
    rotate_left
    · exact c1 n0 (nz3_t (Or.inl (lcn h rfl rfl : ¬ rw3 m 1 0 = 0)))
    have z0 : rw3 m 1 0 = 0 := lce h rfl rfl (hm 3 (by omega)) j0
    refine ⟨fun h => ?_, fun h => ?_⟩
    rotate_left
    · exact c1 n0 (nz3_t (Or.inr (Or.inl (lcn h rfl rfl : ¬ rw3 m 1 1 = 0))))
    have z1 : rw3 m 1 1 = 0 := lce h rfl rfl (hm 4 (by omega)) j0
    refine ⟨fun h => ?_, fun h => ?_⟩
    rotate_left
    · exact c1 n0 (nz3_t (Or.inr (Or.inr (lcn h rfl rfl : ¬ rw3 m 1 2 = 0))))
    have z2 : rw3 m 1 2 = 0 := lce h rfl rfl (hm 5 (by omega)) j0
    have hz := nz3_f.mpr ⟨z0, z1, z2⟩
    exact s2 n0 hz
  have c0 : nz3 (rw3 m 0) = true → X 41 [some (.ref 0), some (.ref 2), some (.int (nI 0))] [] [.inr (4, [.ref 1, .ref 2, .ref 3, .ref 4, .ref 5, .int (n)]), .inl (3, .inr (.inl (va))), .inl (9, .inr (.inl (fun i => zl (m i)))), .inl (9, .inr (.inl (mi))), .inl (9, .inr (.inl (co))), .inl (3, .inr (.inl (fr)))] := by
    intro  hn
    have ht : tkr m = some (rw3 m 0) := by
      unfold tkr
      rw [hn]
      rfl
    refine hX.run (ft := ftX6) (ct := ctX6) (oc := [(119, oCopy)]) kX6_takeRow_ok ftX6_ok ctX6_ok hoc [54] [4] [] 80 ?_
    refine hX.alike (G2 := [.inr (4, [.ref 1, .ref 2, .ref 3, .ref 4, .ref 5, .int (n)]), .inl (3, .inr (.inl (va))), .inl (9, .inr (.inl (fun i => zl (m i)))), .inl (9, .inr (.inl (mi))), .inl (9, .inr (.inl (co))), .inl (3, .inr (.inl (fun i => zl (rw3 m 0 i))))]) ?_ ⟨xsame_rf _, xsame_rf _, xsame_rf _, xsame_rf _, xsame_rf _, ⟨rfl, fun i hi => ?_⟩, trivial⟩
    · refine hX.run (ft := ftX6) (ct := ctX6) (oc := [(119, oCopy)]) kX6_takeRow_ok ftX6_ok ctX6_ok hoc [] [4] [] 80 ?_
      exact ⟨rfl, Or.inl ⟨_, ht, rfl, rfl⟩⟩
    · rcases (show i = 0 ∨ i = 1 ∨ i = 2 by omega) with rfl | rfl | rfl <;> rfl
  have s0 : X 2 [some (.ref 0), some (.ref 2), some (.int (nI 0))] [] [.inr (4, [.ref 1, .ref 2, .ref 3, .ref 4, .ref 5, .int (n)]), .inl (3, .inr (.inl (va))), .inl (9, .inr (.inl (fun i => zl (m i)))), .inl (9, .inr (.inl (mi))), .inl (9, .inr (.inl (co))), .inl (3, .inr (.inl (fr)))] := by
    refine hX.run (ft := ftX6) (ct := ctX6) (oc := [(119, oCopy)]) kX6_takeRow_ok ftX6_ok ctX6_ok hoc [2, 41] [4] [] 80 ?_
    refine ⟨fun h => ?_, fun h => ?_⟩
    rotate_left
    · exact c0  (nz3_t (Or.inl (lcn h rfl rfl : ¬ rw3 m 0 0 = 0)))
    have z0 : rw3 m 0 0 = 0 := lce h rfl rfl (hm 0 (by omega)) j0
    refine ⟨fun h => ?_, fun h => ?_⟩
    rotate_left
    · exact c0  (nz3_t (Or.inr (Or.inl (lcn h rfl rfl : ¬ rw3 m 0 1 = 0))))
    have z1 : rw3 m 0 1 = 0 := lce h rfl rfl (hm 1 (by omega)) j0
    refine ⟨fun h => ?_, fun h => ?_⟩
    rotate_left
    · exact c0  (nz3_t (Or.inr (Or.inr (lcn h rfl rfl : ¬ rw3 m 0 2 = 0))))
    have z2 : rw3 m 0 2 = 0 := lce h rfl rfl (hm 2 (by omega)) j0
    have hz := nz3_f.mpr ⟨z0, z1, z2⟩
    exact s1  hz
  refine hX.run (ft := ftX6) (ct := ctX6) (oc := [(119, oCopy)]) kX6_takeRow_ok ftX6_ok ctX6_ok hoc [2] [4] [] 80 ?_
  exact s0
def fxb (x : Nat → Int) (z : Int) : Nat × (Nat → Int) := match tkr (tr9 (adj9 (lss x z))) with
  | some f => (0, f)
  | none => match tkr (lss x z) with
    | some f => (1, f)
    | none => (2, fun _ => 0)
theorem adj9_bd2 {x : Nat → Int} {A : Int} (hx : ∀ i, i < 9 → ab (x i) A) (i : Nat) : ab (adj9 x i) (A * A + A * A) := by
  have h1 := Nat.mod_lt (i % 3 + 1) (show 0 < 3 by omega)
  have h2 := Nat.mod_lt (i % 3 + 2) (show 0 < 3 by omega)
  have h3 := Nat.mod_lt (i / 3 + 1) (show 0 < 3 by omega)
  have h4 := Nat.mod_lt (i / 3 + 2) (show 0 < 3 by omega)
  exact ab_sub (ab_mul (hx _ (by omega)) (hx _ (by omega))) (ab_mul (hx _ (by omega)) (hx _ (by omega)))
set_option maxHeartbeats 4000000 in
set_option maxRecDepth 100000 in
theorem k_fixedBy (l : Launch) (x : Nat → Int) (hx : ∀ i, i < 9 → ab (x i) 500) (z : Int) (hz : ab z 1500) (n : Int32) (va le mi co fr : Nat → Int64) : xM l yX6_fixedBy cX6_fixedBy 4 (some .int) rX6_fixedBy [.ref 0, .ref 6, .long (zl z)] [.inr (4, [.ref 1, .ref 2, .ref 3, .ref 4, .ref 5, .int (n)]), .inl (3, .inr (.inl (va))), .inl (9, .inr (.inl (le))), .inl (9, .inr (.inl (mi))), .inl (9, .inr (.inl (co))), .inl (3, .inr (.inl (fr))), .inl (9, .inr (.inl (fun i => zl (x i))))] (fun r G => ∃ fr', r = some (.int (nI (fxb x z).1)) ∧ ((fxb x z).1 ≠ 2 → ∀ i, i < 3 → fr' i = zl ((fxb x z).2 i)) ∧ G = [.inr (4, [.ref 1, .ref 2, .ref 3, .ref 4, .ref 5, .int (n)]), .inl (3, .inr (.inl (va))), .inl (9, .inr (.inl (fun i => zl ((lss x z) i)))), .inl (9, .inr (.inl (fun i => zl (adj9 (lss x z) i)))), .inl (9, .inr (.inl (fun i => zl (tr9 (adj9 (lss x z)) i)))), .inl (3, .inr (.inl (fr'))), .inl (9, .inr (.inl (fun i => zl (x i))))]) := by
  refine xM.of (by decide) (Nat.le_of_ble_eq_true rfl) (fun X hX => ?_)
  have hoc := xoc1 (oCopy_ok hX (idx := 59) cpX6_59 (by decide)) xnoc
  have m5 := lss_bd hx hz
  have ja : ∀ i, i < 9 → jr (tr9 (adj9 (lss x z)) i) := fun i hi => ab_jr (tr9_bd (fun i _ => adj9_bd2 m5 i) i hi) (by decide)
  have jl : ∀ i, i < 9 → jr ((lss x z) i) := fun i hi => ab_jr (m5 i hi) (by decide)
  refine hX.run (ft := ftX6) (ct := ctX6) (oc := [(119, oCopy)]) kX6_fixedBy_ok ftX6_ok ctX6_ok hoc [43] [] [] 80 ?_
  refine hX.alike (G2 := [.inr (4, [.ref 1, .ref 2, .ref 3, .ref 4, .ref 5, .int (n)]), .inl (3, .inr (.inl (va))), .inl (9, .inr (.inl (fun i => zl ((lss x z) i)))), .inl (9, .inr (.inl (mi))), .inl (9, .inr (.inl (co))), .inl (3, .inr (.inl (fr))), .inl (9, .inr (.inl (fun i => zl (x i))))]) ?_ ⟨xsame_rf _, xsame_rf _, ⟨rfl, fun i hi => ?_⟩, xsame_rf _, xsame_rf _, xsame_rf _, xsame_rf _, trivial⟩
  rotate_left
  · rcases (show i = 0 ∨ i = 1 ∨ i = 2 ∨ i = 3 ∨ i = 4 ∨ i = 5 ∨ i = 6 ∨ i = 7 ∨ i = 8 by omega) with rfl | rfl | rfl | rfl | rfl | rfl | rfl | rfl | rfl
    · exact zl_sub (x 0) z
    · show zl (x 1) = zl (x 1 - 0)
      rw [Int.sub_zero]
    · show zl (x 2) = zl (x 2 - 0)
      rw [Int.sub_zero]
    · show zl (x 3) = zl (x 3 - 0)
      rw [Int.sub_zero]
    · exact zl_sub (x 4) z
    · show zl (x 5) = zl (x 5 - 0)
      rw [Int.sub_zero]
    · show zl (x 6) = zl (x 6 - 0)
      rw [Int.sub_zero]
    · show zl (x 7) = zl (x 7 - 0)
      rw [Int.sub_zero]
    · exact zl_sub (x 8) z
  refine hX.run (ft := ftX6) (ct := ctX6) (oc := [(119, oCopy)]) kX6_fixedBy_ok ftX6_ok ctX6_ok hoc [] [] [] 80 ?_
  refine hX.callS [2, 3] [] (k_adjugate l (lss x z) mi) yX9_adjugate_ok lkX6_35 ssX9_adjugate ⟨rfl, rfl, by decide, by decide⟩ (kX6_fixedBy_ok.at 51 rfl) rfl rfl (by decide) ⟨rfl, rfl, trivial⟩ rfl (fun _ _ q => by rw [q.2]; rfl) (fun r9 G1 q => ?_)
  obtain ⟨rfl, rfl⟩ := q
  refine hX.run (ft := ftX6) (ct := ctX6) (oc := [(119, oCopy)]) kX6_fixedBy_ok ftX6_ok ctX6_ok hoc [] [] [] 80 ?_
  refine hX.callS [3, 4] [] (k_transpose l (adj9 (lss x z)) co) yX9_transpose_ok lkX6_65 ssX9_transpose ⟨rfl, rfl, by decide, by decide⟩ (kX6_fixedBy_ok.at 62 rfl) rfl rfl (by decide) ⟨rfl, rfl, trivial⟩ rfl (fun _ _ q => by rw [q.2]; rfl) (fun r9 G1 q => ?_)
  obtain ⟨rfl, rfl⟩ := q
  refine hX.run (ft := ftX6) (ct := ctX6) (oc := [(119, oCopy)]) kX6_fixedBy_ok ftX6_ok ctX6_ok hoc [] [] [] 80 ?_
  refine hX.callV [0, 1, 2, 3, 4, 5] [] (k_take4 l n va _ _ co fr (tr9 (adj9 (lss x z))) ja) yX6_takeRow_ok lkX6_68 ivX6_takeRow slX6_takeRow ⟨rfl, rfl, by decide, by decide⟩ (kX6_fixedBy_ok.at 70 rfl) rfl rfl (by decide) rfl rfl rfl ⟨rfl, rfl, rfl, rfl, rfl, rfl, trivial⟩ rfl (fun _ _ q => by rcases q with ⟨_, -, -, rfl⟩ | ⟨-, -, rfl⟩ <;> rfl) (fun r9 G1 q => ?_)
  rcases q with ⟨f, q1, rfl, rfl⟩ | ⟨q1, rfl, rfl⟩
  · have e : fxb x z = (0, f) := by unfold fxb; rw [q1]
    refine hX.run (ft := ftX6) (ct := ctX6) (oc := [(119, oCopy)]) kX6_fixedBy_ok ftX6_ok ctX6_ok hoc [] [73] [] 80 ?_
    rw [e]
    exact ⟨_, rfl, fun _ i hi => rfl, rfl⟩
  refine hX.run (ft := ftX6) (ct := ctX6) (oc := [(119, oCopy)]) kX6_fixedBy_ok ftX6_ok ctX6_ok hoc [] [73] [] 80 ?_
  refine hX.callV [0, 1, 2, 3, 4, 5] [] (k_take2 l n va le _ _ fr (lss x z) jl) yX6_takeRow_ok lkX6_68 ivX6_takeRow slX6_takeRow ⟨rfl, rfl, by decide, by decide⟩ (kX6_fixedBy_ok.at 83 rfl) rfl rfl (by decide) rfl rfl rfl ⟨rfl, rfl, rfl, rfl, rfl, rfl, trivial⟩ rfl (fun _ _ q => by rcases q with ⟨_, -, -, rfl⟩ | ⟨-, -, rfl⟩ <;> rfl) (fun r9 G1 q => ?_)
  rcases q with ⟨f, q2, rfl, rfl⟩ | ⟨q2, rfl, rfl⟩
  · have e : fxb x z = (1, f) := by unfold fxb; rw [q1]; dsimp only; rw [q2]
    refine hX.run (ft := ftX6) (ct := ctX6) (oc := [(119, oCopy)]) kX6_fixedBy_ok ftX6_ok ctX6_ok hoc [] [86] [] 80 ?_
    rw [e]
    exact ⟨_, rfl, fun _ i hi => rfl, rfl⟩
  · have e : fxb x z = (2, fun _ => 0) := by unfold fxb; rw [q1]; dsimp only; rw [q2]
    refine hX.run (ft := ftX6) (ct := ctX6) (oc := [(119, oCopy)]) kX6_fixedBy_ok ftX6_ok ctX6_ok hoc [] [86] [] 80 ?_
    rw [e]
    exact ⟨_, rfl, fun q => absurd rfl q, rfl⟩
def cpw (x : Nat → Int) (v : Int) : Nat := if tr3 x - 2 * v = v then 13 else if tr3 x - 2 * v = - v then 14 else 15
def cpl (x : Nat → Int) : Nat → Nat → Nat
  | 0, _ => 16
  | d + 1, k => if k < (ovs x).1 ∧ (fxb x ((ovs x).2 k)).1 = 1 then cpw x ((ovs x).2 k) else cpl x d (k + 1)
theorem cpl_no {x : Nat → Int} {d k : Nat} (h : ¬ (k < (ovs x).1 ∧ (fxb x ((ovs x).2 k)).1 = 1)) : cpl x (d + 1) k = cpl x d (k + 1) := by rw [cpl, if_neg h]
theorem cpl_yes {x : Nat → Int} {d k : Nat} (h : k < (ovs x).1 ∧ (fxb x ((ovs x).2 k)).1 = 1) : cpl x (d + 1) k = cpw x ((ovs x).2 k) := by rw [cpl, if_pos h]
theorem fxb_le (x : Nat → Int) (z : Int) : (fxb x z).1 ≤ 2 := by
  unfold fxb
  split
  · simp
  · split <;> simp
set_option maxHeartbeats 4000000 in
set_option maxRecDepth 100000 in
theorem k_ofProj (l : Launch) (x : Nat → Int) (hx : ∀ i, i < 9 → ab (x i) 500) (n : Int32) (va le mi co fr : Nat → Int64) : xM l yX2_ofProjective cX2_ofProjective 5 (some .int) rX2_ofProjective [.ref 6, .ref 0] [.inr (4, [.ref 1, .ref 2, .ref 3, .ref 4, .ref 5, .int (n)]), .inl (3, .inr (.inl (va))), .inl (9, .inr (.inl (le))), .inl (9, .inr (.inl (mi))), .inl (9, .inr (.inl (co))), .inl (3, .inr (.inl (fr))), .inl (9, .inr (.inl (fun i => zl (x i))))] (fun r G => ∃ va' le' mi' co' fr' n', r = some (.int (nI (cpl x 3 0))) ∧ G = [.inr (4, [.ref 1, .ref 2, .ref 3, .ref 4, .ref 5, .int (n')]), .inl (3, .inr (.inl (va'))), .inl (9, .inr (.inl (le'))), .inl (9, .inr (.inl (mi'))), .inl (9, .inr (.inl (co'))), .inl (3, .inr (.inl (fr'))), .inl (9, .inr (.inl (fun i => zl (x i))))]) := by
  refine xM.of (by decide) (Nat.le_of_ble_eq_true rfl) (fun X hX => ?_)
  have hw := wmx_bd hx (i := 3) (by omega)
  have hm : 0 ≤ mst x ∧ mst x ≤ 1500 := by unfold mst; split <;> omega
  have hn3 : (ovs x).1 ≤ 3 := scn_n (by omega)
  have hvb : ∀ i, i < (ovs x).1 → -1500 ≤ (ovs x).2 i ∧ (ovs x).2 i ≤ 1500 := scn_in (fun i hi => absurd hi (Nat.not_lt_zero i)) (by omega) (by omega)
  have bt : ab (tr3 x) 1500 := ab_le (ab_add (ab_add (hx 0 (by omega)) (hx 4 (by omega))) (hx 8 (by omega))) (by decide)
  have s3 : cpl x 3 0 = cpl x 0 3 → ∀ va le mi co fr : Nat → Int64, X 7 [some (.ref 6), some (.ref 0), some (.int (nI 3)), none, none] [] [.inr (4, [.ref 1, .ref 2, .ref 3, .ref 4, .ref 5, .int (nI (ovs x).1)]), .inl (3, .inr (.inl (va))), .inl (9, .inr (.inl (le))), .inl (9, .inr (.inl (mi))), .inl (9, .inr (.inl (co))), .inl (3, .inr (.inl (fr))), .inl (9, .inr (.inl (fun i => zl (x i))))] := by
    intro h va le mi co fr
    refine hX.run (ft := []) (ct := ctX2) (oc := []) kX2_ofProjective_ok xnof ctX2_ok xnoc [] [9] [] 80 ?_
    rw [h]
    exact ⟨_, _, _, _, _, _, rfl, rfl⟩
  have s2 : cpl x 3 0 = cpl x 1 2 → ∀ va le mi co fr : Nat → Int64, (∀ i, i < (ovs x).1 → va i = zl ((ovs x).2 i)) → X 7 [some (.ref 6), some (.ref 0), some (.int (nI 2)), none, none] [] [.inr (4, [.ref 1, .ref 2, .ref 3, .ref 4, .ref 5, .int (nI (ovs x).1)]), .inl (3, .inr (.inl (va))), .inl (9, .inr (.inl (le))), .inl (9, .inr (.inl (mi))), .inl (9, .inr (.inl (co))), .inl (3, .inr (.inl (fr))), .inl (9, .inr (.inl (fun i => zl (x i))))] := by
    intro h va le mi co fr hva
    have nx : ¬ (2 < (ovs x).1 ∧ (fxb x ((ovs x).2 2)).1 = 1) → cpl x 3 0 = cpl x 0 3 := fun hn => h.trans (cpl_no (d := 0) hn)
    refine hX.run (ft := []) (ct := ctX2) (oc := []) kX2_ofProjective_ok xnof ctX2_ok xnoc [] [9] [] 80 ?_
    refine hX.callV [0, 1, 2, 3, 4, 5] [] (k_ohas l (ovs x).1 hn3 va le mi co fr (nI 2)) yX6_has_ok lkX2_38 ivX6_has slX6_has ⟨rfl, rfl, by decide, by decide⟩ (kX2_ofProjective_ok.at 14 rfl) rfl rfl (by decide) rfl rfl rfl ⟨rfl, rfl, rfl, rfl, rfl, rfl, trivial⟩ rfl (fun _ _ q => by rw [q.2]) (fun r9 G1 q => ?_)
    obtain ⟨rfl, rfl⟩ := q
    have e1 : (nI 2).toInt = 2 := by decide
    refine hX.run (ft := []) (ct := ctX2) (oc := []) kX2_ofProjective_ok xnof ctX2_ok xnoc [7] [9] [] 80 ?_
    refine ⟨fun h2 => ?_, fun h2 => ?_⟩
    · have h3 := of_decide_eq_false (bI_0.mp h2)
      rw [e1] at h3
      exact s3 (nx (fun q => h3 (by omega))) va le mi co fr
    have h3 := of_decide_eq_true (bI_t h2)
    rw [e1] at h3
    have hk : 2 < (ovs x).1 := by omega
    have hv := hva 2 hk
    have hb := hvb 2 hk
    have jv : jr ((ovs x).2 2) := ⟨by omega, by omega⟩
    refine hX.callV [0, 1, 2, 3, 4, 5] [.ref 6, .ref 0] (k_oval l (ovs x).1 hn3 va le mi co fr 2 hk) yX6_value_ok lkX2_42 ivX6_value slX6_value ⟨rfl, rfl, by decide, by decide⟩ (kX2_ofProjective_ok.at 24 rfl) rfl rfl (xrs_ok rfl) rfl rfl rfl ⟨rfl, rfl, rfl, rfl, rfl, rfl, trivial⟩ rfl (fun _ _ q => by rw [q.2]) (fun r9 G1 q => ?_)
    obtain ⟨rfl, rfl⟩ := q
    rw [hv]
    refine hX.callV [0, 1, 2, 3, 4, 5, 6] [] (k_fixedBy l x hx ((ovs x).2 2) hb (nI (ovs x).1) va le mi co fr) yX6_fixedBy_ok lkX2_46 ivX6_fixedBy slX6_fixedBy ⟨rfl, rfl, by decide, by decide⟩ (kX2_ofProjective_ok.at 27 rfl) rfl rfl (by decide) rfl rfl rfl ⟨rfl, rfl, rfl, rfl, rfl, rfl, rfl, trivial⟩ rfl (fun _ _ q => by obtain ⟨_, -, -, rfl⟩ := q; rfl) (fun r9 G1 q => ?_)
    obtain ⟨fr2, rfl, -, rfl⟩ := q
    have hf2 := fxb_le x ((ovs x).2 2)
    refine hX.run (ft := []) (ct := ctX2) (oc := []) kX2_ofProjective_ok xnof ctX2_ok xnoc [7] [9] [] 80 ?_
    refine ⟨fun h4 => ?_, fun h4 => ?_⟩
    rotate_left
    · have h5 : ¬ (fxb x ((ovs x).2 2)).1 = 1 := fun e => h4 (by rw [e]; rfl)
      exact s3 (nx (fun q => h5 q.2)) va _ _ _ _
    have h5 : (fxb x ((ovs x).2 2)).1 = 1 := by
      have h6 : nI (fxb x ((ovs x).2 2)).1 = nI 1 := h4
      rwa [nI_eq (by omega) (by omega)] at h6
    have ec : cpl x 3 0 = cpw x ((ovs x).2 2) := h.trans (cpl_yes (d := 0) ⟨hk, h5⟩)
    have b2 : ab (tr3 x - 2 * (ovs x).2 2) 4500 := ab_le (ab_sub bt (ab_mul (A := 2) (B := 1500) ⟨by omega, by omega⟩ hb)) (by decide)
    have j2 : jr (tr3 x - 2 * (ovs x).2 2) := ab_jr b2 (by decide)
    refine hX.callS [6] [] (k_trace l x) yX9_trace_ok lkX2_50 ssX9_trace ⟨rfl, rfl, by decide, by decide⟩ (kX2_ofProjective_ok.at 35 rfl) rfl rfl (by decide) ⟨rfl, trivial⟩ rfl (fun _ _ q => by rw [q.2]) (fun r9 G1 q => ?_)
    obtain ⟨rfl, rfl⟩ := q
    refine hX.run (ft := []) (ct := ctX2) (oc := []) kX2_ofProjective_ok xnof ctX2_ok xnoc [] [9] [] 80 ?_
    refine hX.callV [0, 1, 2, 3, 4, 5] [.long 2, .long (zl (x 0 + x 4 + x 8))] (k_oval l (ovs x).1 hn3 va _ _ _ _ 2 hk) yX6_value_ok lkX2_42 ivX6_value slX6_value ⟨rfl, rfl, by decide, by decide⟩ (kX2_ofProjective_ok.at 43 rfl) rfl rfl (xrs_ok rfl) rfl rfl rfl ⟨rfl, rfl, rfl, rfl, rfl, rfl, trivial⟩ rfl (fun _ _ q => by rw [q.2]) (fun r9 G1 q => ?_)
    obtain ⟨rfl, rfl⟩ := q
    rw [hv]
    have late : ∀ w : Int64, w = zl (tr3 x - 2 * (ovs x).2 2) → X 49 [some (.ref 6), some (.ref 0), some (.int (nI 2)), some (.long w), none] [] [.inr (4, [.ref 1, .ref 2, .ref 3, .ref 4, .ref 5, .int (nI (ovs x).1)]), .inl (3, .inr (.inl (va))), .inl (9, .inr (.inl (fun i => zl (lss x ((ovs x).2 2) i)))), .inl (9, .inr (.inl (fun i => zl (adj9 (lss x ((ovs x).2 2)) i)))), .inl (9, .inr (.inl (fun i => zl (tr9 (adj9 (lss x ((ovs x).2 2))) i)))), .inl (3, .inr (.inl (fr2))), .inl (9, .inr (.inl (fun i => zl (x i))))] := by
      rintro _ rfl
      refine hX.run (ft := []) (ct := ctX2) (oc := []) kX2_ofProjective_ok xnof ctX2_ok xnoc [] [9] [] 80 ?_
      refine hX.callV [0, 1, 2, 3, 4, 5] [.long (zl (tr3 x - 2 * (ovs x).2 2))] (k_oval l (ovs x).1 hn3 va _ _ _ _ 2 hk) yX6_value_ok lkX2_42 ivX6_value slX6_value ⟨rfl, rfl, by decide, by decide⟩ (kX2_ofProjective_ok.at 52 rfl) rfl rfl (xrs_ok rfl) rfl rfl rfl ⟨rfl, rfl, rfl, rfl, rfl, rfl, trivial⟩ rfl (fun _ _ q => by rw [q.2]) (fun r9 G1 q => ?_)
      obtain ⟨rfl, rfl⟩ := q
      rw [hv]
      refine hX.run (ft := []) (ct := ctX2) (oc := []) kX2_ofProjective_ok xnof ctX2_ok xnoc [] [9] [] 80 ?_
      refine ⟨fun h6 => ?_, fun h6 => ?_⟩
      · have g : tr3 x - 2 * (ovs x).2 2 = (ovs x).2 2 := lce h6 rfl rfl j2 jv
        have e : cpl x 3 0 = 13 := by rw [ec, cpw, if_pos g]
        rw [e]
        exact ⟨_, _, _, _, _, _, rfl, rfl⟩
      have g : ¬ tr3 x - 2 * (ovs x).2 2 = (ovs x).2 2 := lcn h6 rfl rfl
      refine hX.callV [0, 1, 2, 3, 4, 5] [.long (zl (tr3 x - 2 * (ovs x).2 2))] (k_oval l (ovs x).1 hn3 va _ _ _ _ 2 hk) yX6_value_ok lkX2_42 ivX6_value slX6_value ⟨rfl, rfl, by decide, by decide⟩ (kX2_ofProjective_ok.at 67 rfl) rfl rfl (xrs_ok rfl) rfl rfl rfl ⟨rfl, rfl, rfl, rfl, rfl, rfl, trivial⟩ rfl (fun _ _ q => by rw [q.2]) (fun r9 G1 q => ?_)
      obtain ⟨rfl, rfl⟩ := q
      rw [hv]
      refine hX.run (ft := []) (ct := ctX2) (oc := []) kX2_ofProjective_ok xnof ctX2_ok xnoc [] [9] [] 80 ?_
      refine ⟨fun h6 => ?_, fun h6 => ?_⟩
      · have g2 : tr3 x - 2 * (ovs x).2 2 = - (ovs x).2 2 := lce h6 rfl (zl_neg _) j2 ⟨by omega, by omega⟩
        have e : cpl x 3 0 = 14 := by rw [ec, cpw, if_neg g, if_pos g2]
        rw [e]
        exact ⟨_, _, _, _, _, _, rfl, rfl⟩
      · have g2 : ¬ tr3 x - 2 * (ovs x).2 2 = - (ovs x).2 2 := lcn h6 rfl (zl_neg _)
        have e : cpl x 3 0 = 15 := by rw [ec, cpw, if_neg g, if_neg g2]
        rw [e]
        exact ⟨_, _, _, _, _, _, rfl, rfl⟩
    refine hX.run (ft := []) (ct := ctX2) (oc := []) kX2_ofProjective_ok xnof ctX2_ok xnoc [49] [9] [] 80 ?_
    refine late _ ?_
    have e2 : (2 : Int64) = zl 2 := rfl
    rw [e2, zl_mul, zl_sub]
    rfl
  have s1 : cpl x 3 0 = cpl x 2 1 → ∀ va le mi co fr : Nat → Int64, (∀ i, i < (ovs x).1 → va i = zl ((ovs x).2 i)) → X 7 [some (.ref 6), some (.ref 0), some (.int (nI 1)), none, none] [] [.inr (4, [.ref 1, .ref 2, .ref 3, .ref 4, .ref 5, .int (nI (ovs x).1)]), .inl (3, .inr (.inl (va))), .inl (9, .inr (.inl (le))), .inl (9, .inr (.inl (mi))), .inl (9, .inr (.inl (co))), .inl (3, .inr (.inl (fr))), .inl (9, .inr (.inl (fun i => zl (x i))))] := by
    intro h va le mi co fr hva
    have nx : ¬ (1 < (ovs x).1 ∧ (fxb x ((ovs x).2 1)).1 = 1) → cpl x 3 0 = cpl x 1 2 := fun hn => h.trans (cpl_no (d := 1) hn)
    refine hX.run (ft := []) (ct := ctX2) (oc := []) kX2_ofProjective_ok xnof ctX2_ok xnoc [] [9] [] 80 ?_
    refine hX.callV [0, 1, 2, 3, 4, 5] [] (k_ohas l (ovs x).1 hn3 va le mi co fr (nI 1)) yX6_has_ok lkX2_38 ivX6_has slX6_has ⟨rfl, rfl, by decide, by decide⟩ (kX2_ofProjective_ok.at 14 rfl) rfl rfl (by decide) rfl rfl rfl ⟨rfl, rfl, rfl, rfl, rfl, rfl, trivial⟩ rfl (fun _ _ q => by rw [q.2]) (fun r9 G1 q => ?_)
    obtain ⟨rfl, rfl⟩ := q
    have e1 : (nI 1).toInt = 1 := by decide
    refine hX.run (ft := []) (ct := ctX2) (oc := []) kX2_ofProjective_ok xnof ctX2_ok xnoc [7] [9] [] 80 ?_
    refine ⟨fun h2 => ?_, fun h2 => ?_⟩
    · have h3 := of_decide_eq_false (bI_0.mp h2)
      rw [e1] at h3
      exact s2 (nx (fun q => h3 (by omega))) va le mi co fr hva
    have h3 := of_decide_eq_true (bI_t h2)
    rw [e1] at h3
    have hk : 1 < (ovs x).1 := by omega
    have hv := hva 1 hk
    have hb := hvb 1 hk
    have jv : jr ((ovs x).2 1) := ⟨by omega, by omega⟩
    refine hX.callV [0, 1, 2, 3, 4, 5] [.ref 6, .ref 0] (k_oval l (ovs x).1 hn3 va le mi co fr 1 hk) yX6_value_ok lkX2_42 ivX6_value slX6_value ⟨rfl, rfl, by decide, by decide⟩ (kX2_ofProjective_ok.at 24 rfl) rfl rfl (xrs_ok rfl) rfl rfl rfl ⟨rfl, rfl, rfl, rfl, rfl, rfl, trivial⟩ rfl (fun _ _ q => by rw [q.2]) (fun r9 G1 q => ?_)
    obtain ⟨rfl, rfl⟩ := q
    rw [hv]
    refine hX.callV [0, 1, 2, 3, 4, 5, 6] [] (k_fixedBy l x hx ((ovs x).2 1) hb (nI (ovs x).1) va le mi co fr) yX6_fixedBy_ok lkX2_46 ivX6_fixedBy slX6_fixedBy ⟨rfl, rfl, by decide, by decide⟩ (kX2_ofProjective_ok.at 27 rfl) rfl rfl (by decide) rfl rfl rfl ⟨rfl, rfl, rfl, rfl, rfl, rfl, rfl, trivial⟩ rfl (fun _ _ q => by obtain ⟨_, -, -, rfl⟩ := q; rfl) (fun r9 G1 q => ?_)
    obtain ⟨fr2, rfl, -, rfl⟩ := q
    have hf2 := fxb_le x ((ovs x).2 1)
    refine hX.run (ft := []) (ct := ctX2) (oc := []) kX2_ofProjective_ok xnof ctX2_ok xnoc [7] [9] [] 80 ?_
    refine ⟨fun h4 => ?_, fun h4 => ?_⟩
    rotate_left
    · have h5 : ¬ (fxb x ((ovs x).2 1)).1 = 1 := fun e => h4 (by rw [e]; rfl)
      exact s2 (nx (fun q => h5 q.2)) va _ _ _ _ hva
    have h5 : (fxb x ((ovs x).2 1)).1 = 1 := by
      have h6 : nI (fxb x ((ovs x).2 1)).1 = nI 1 := h4
      rwa [nI_eq (by omega) (by omega)] at h6
    have ec : cpl x 3 0 = cpw x ((ovs x).2 1) := h.trans (cpl_yes (d := 1) ⟨hk, h5⟩)
    have b2 : ab (tr3 x - 2 * (ovs x).2 1) 4500 := ab_le (ab_sub bt (ab_mul (A := 2) (B := 1500) ⟨by omega, by omega⟩ hb)) (by decide)
    have j2 : jr (tr3 x - 2 * (ovs x).2 1) := ab_jr b2 (by decide)
    refine hX.callS [6] [] (k_trace l x) yX9_trace_ok lkX2_50 ssX9_trace ⟨rfl, rfl, by decide, by decide⟩ (kX2_ofProjective_ok.at 35 rfl) rfl rfl (by decide) ⟨rfl, trivial⟩ rfl (fun _ _ q => by rw [q.2]) (fun r9 G1 q => ?_)
    obtain ⟨rfl, rfl⟩ := q
    refine hX.run (ft := []) (ct := ctX2) (oc := []) kX2_ofProjective_ok xnof ctX2_ok xnoc [] [9] [] 80 ?_
    refine hX.callV [0, 1, 2, 3, 4, 5] [.long 2, .long (zl (x 0 + x 4 + x 8))] (k_oval l (ovs x).1 hn3 va _ _ _ _ 1 hk) yX6_value_ok lkX2_42 ivX6_value slX6_value ⟨rfl, rfl, by decide, by decide⟩ (kX2_ofProjective_ok.at 43 rfl) rfl rfl (xrs_ok rfl) rfl rfl rfl ⟨rfl, rfl, rfl, rfl, rfl, rfl, trivial⟩ rfl (fun _ _ q => by rw [q.2]) (fun r9 G1 q => ?_)
    obtain ⟨rfl, rfl⟩ := q
    rw [hv]
    have late : ∀ w : Int64, w = zl (tr3 x - 2 * (ovs x).2 1) → X 49 [some (.ref 6), some (.ref 0), some (.int (nI 1)), some (.long w), none] [] [.inr (4, [.ref 1, .ref 2, .ref 3, .ref 4, .ref 5, .int (nI (ovs x).1)]), .inl (3, .inr (.inl (va))), .inl (9, .inr (.inl (fun i => zl (lss x ((ovs x).2 1) i)))), .inl (9, .inr (.inl (fun i => zl (adj9 (lss x ((ovs x).2 1)) i)))), .inl (9, .inr (.inl (fun i => zl (tr9 (adj9 (lss x ((ovs x).2 1))) i)))), .inl (3, .inr (.inl (fr2))), .inl (9, .inr (.inl (fun i => zl (x i))))] := by
      rintro _ rfl
      refine hX.run (ft := []) (ct := ctX2) (oc := []) kX2_ofProjective_ok xnof ctX2_ok xnoc [] [9] [] 80 ?_
      refine hX.callV [0, 1, 2, 3, 4, 5] [.long (zl (tr3 x - 2 * (ovs x).2 1))] (k_oval l (ovs x).1 hn3 va _ _ _ _ 1 hk) yX6_value_ok lkX2_42 ivX6_value slX6_value ⟨rfl, rfl, by decide, by decide⟩ (kX2_ofProjective_ok.at 52 rfl) rfl rfl (xrs_ok rfl) rfl rfl rfl ⟨rfl, rfl, rfl, rfl, rfl, rfl, trivial⟩ rfl (fun _ _ q => by rw [q.2]) (fun r9 G1 q => ?_)
      obtain ⟨rfl, rfl⟩ := q
      rw [hv]
      refine hX.run (ft := []) (ct := ctX2) (oc := []) kX2_ofProjective_ok xnof ctX2_ok xnoc [] [9] [] 80 ?_
      refine ⟨fun h6 => ?_, fun h6 => ?_⟩
      · have g : tr3 x - 2 * (ovs x).2 1 = (ovs x).2 1 := lce h6 rfl rfl j2 jv
        have e : cpl x 3 0 = 13 := by rw [ec, cpw, if_pos g]
        rw [e]
        exact ⟨_, _, _, _, _, _, rfl, rfl⟩
      have g : ¬ tr3 x - 2 * (ovs x).2 1 = (ovs x).2 1 := lcn h6 rfl rfl
      refine hX.callV [0, 1, 2, 3, 4, 5] [.long (zl (tr3 x - 2 * (ovs x).2 1))] (k_oval l (ovs x).1 hn3 va _ _ _ _ 1 hk) yX6_value_ok lkX2_42 ivX6_value slX6_value ⟨rfl, rfl, by decide, by decide⟩ (kX2_ofProjective_ok.at 67 rfl) rfl rfl (xrs_ok rfl) rfl rfl rfl ⟨rfl, rfl, rfl, rfl, rfl, rfl, trivial⟩ rfl (fun _ _ q => by rw [q.2]) (fun r9 G1 q => ?_)
      obtain ⟨rfl, rfl⟩ := q
      rw [hv]
      refine hX.run (ft := []) (ct := ctX2) (oc := []) kX2_ofProjective_ok xnof ctX2_ok xnoc [] [9] [] 80 ?_
      refine ⟨fun h6 => ?_, fun h6 => ?_⟩
      · have g2 : tr3 x - 2 * (ovs x).2 1 = - (ovs x).2 1 := lce h6 rfl (zl_neg _) j2 ⟨by omega, by omega⟩
        have e : cpl x 3 0 = 14 := by rw [ec, cpw, if_neg g, if_pos g2]
        rw [e]
        exact ⟨_, _, _, _, _, _, rfl, rfl⟩
      · have g2 : ¬ tr3 x - 2 * (ovs x).2 1 = - (ovs x).2 1 := lcn h6 rfl (zl_neg _)
        have e : cpl x 3 0 = 15 := by rw [ec, cpw, if_neg g, if_neg g2]
        rw [e]
        exact ⟨_, _, _, _, _, _, rfl, rfl⟩
    refine hX.run (ft := []) (ct := ctX2) (oc := []) kX2_ofProjective_ok xnof ctX2_ok xnoc [49] [9] [] 80 ?_
    refine late _ ?_
    have e2 : (2 : Int64) = zl 2 := rfl
    rw [e2, zl_mul, zl_sub]
    rfl
  have s0 : cpl x 3 0 = cpl x 3 0 → ∀ va le mi co fr : Nat → Int64, (∀ i, i < (ovs x).1 → va i = zl ((ovs x).2 i)) → X 7 [some (.ref 6), some (.ref 0), some (.int (nI 0)), none, none] [] [.inr (4, [.ref 1, .ref 2, .ref 3, .ref 4, .ref 5, .int (nI (ovs x).1)]), .inl (3, .inr (.inl (va))), .inl (9, .inr (.inl (le))), .inl (9, .inr (.inl (mi))), .inl (9, .inr (.inl (co))), .inl (3, .inr (.inl (fr))), .inl (9, .inr (.inl (fun i => zl (x i))))] := by
    intro h va le mi co fr hva
    have nx : ¬ (0 < (ovs x).1 ∧ (fxb x ((ovs x).2 0)).1 = 1) → cpl x 3 0 = cpl x 2 1 := fun hn => h.trans (cpl_no (d := 2) hn)
    refine hX.run (ft := []) (ct := ctX2) (oc := []) kX2_ofProjective_ok xnof ctX2_ok xnoc [] [9] [] 80 ?_
    refine hX.callV [0, 1, 2, 3, 4, 5] [] (k_ohas l (ovs x).1 hn3 va le mi co fr (nI 0)) yX6_has_ok lkX2_38 ivX6_has slX6_has ⟨rfl, rfl, by decide, by decide⟩ (kX2_ofProjective_ok.at 14 rfl) rfl rfl (by decide) rfl rfl rfl ⟨rfl, rfl, rfl, rfl, rfl, rfl, trivial⟩ rfl (fun _ _ q => by rw [q.2]) (fun r9 G1 q => ?_)
    obtain ⟨rfl, rfl⟩ := q
    have e1 : (nI 0).toInt = 0 := by decide
    refine hX.run (ft := []) (ct := ctX2) (oc := []) kX2_ofProjective_ok xnof ctX2_ok xnoc [7] [9] [] 80 ?_
    refine ⟨fun h2 => ?_, fun h2 => ?_⟩
    · have h3 := of_decide_eq_false (bI_0.mp h2)
      rw [e1] at h3
      exact s1 (nx (fun q => h3 (by omega))) va le mi co fr hva
    have h3 := of_decide_eq_true (bI_t h2)
    rw [e1] at h3
    have hk : 0 < (ovs x).1 := by omega
    have hv := hva 0 hk
    have hb := hvb 0 hk
    have jv : jr ((ovs x).2 0) := ⟨by omega, by omega⟩
    refine hX.callV [0, 1, 2, 3, 4, 5] [.ref 6, .ref 0] (k_oval l (ovs x).1 hn3 va le mi co fr 0 hk) yX6_value_ok lkX2_42 ivX6_value slX6_value ⟨rfl, rfl, by decide, by decide⟩ (kX2_ofProjective_ok.at 24 rfl) rfl rfl (xrs_ok rfl) rfl rfl rfl ⟨rfl, rfl, rfl, rfl, rfl, rfl, trivial⟩ rfl (fun _ _ q => by rw [q.2]) (fun r9 G1 q => ?_)
    obtain ⟨rfl, rfl⟩ := q
    rw [hv]
    refine hX.callV [0, 1, 2, 3, 4, 5, 6] [] (k_fixedBy l x hx ((ovs x).2 0) hb (nI (ovs x).1) va le mi co fr) yX6_fixedBy_ok lkX2_46 ivX6_fixedBy slX6_fixedBy ⟨rfl, rfl, by decide, by decide⟩ (kX2_ofProjective_ok.at 27 rfl) rfl rfl (by decide) rfl rfl rfl ⟨rfl, rfl, rfl, rfl, rfl, rfl, rfl, trivial⟩ rfl (fun _ _ q => by obtain ⟨_, -, -, rfl⟩ := q; rfl) (fun r9 G1 q => ?_)
    obtain ⟨fr2, rfl, -, rfl⟩ := q
    have hf2 := fxb_le x ((ovs x).2 0)
    refine hX.run (ft := []) (ct := ctX2) (oc := []) kX2_ofProjective_ok xnof ctX2_ok xnoc [7] [9] [] 80 ?_
    refine ⟨fun h4 => ?_, fun h4 => ?_⟩
    rotate_left
    · have h5 : ¬ (fxb x ((ovs x).2 0)).1 = 1 := fun e => h4 (by rw [e]; rfl)
      exact s1 (nx (fun q => h5 q.2)) va _ _ _ _ hva
    have h5 : (fxb x ((ovs x).2 0)).1 = 1 := by
      have h6 : nI (fxb x ((ovs x).2 0)).1 = nI 1 := h4
      rwa [nI_eq (by omega) (by omega)] at h6
    have ec : cpl x 3 0 = cpw x ((ovs x).2 0) := h.trans (cpl_yes (d := 2) ⟨hk, h5⟩)
    have b2 : ab (tr3 x - 2 * (ovs x).2 0) 4500 := ab_le (ab_sub bt (ab_mul (A := 2) (B := 1500) ⟨by omega, by omega⟩ hb)) (by decide)
    have j2 : jr (tr3 x - 2 * (ovs x).2 0) := ab_jr b2 (by decide)
    refine hX.callS [6] [] (k_trace l x) yX9_trace_ok lkX2_50 ssX9_trace ⟨rfl, rfl, by decide, by decide⟩ (kX2_ofProjective_ok.at 35 rfl) rfl rfl (by decide) ⟨rfl, trivial⟩ rfl (fun _ _ q => by rw [q.2]) (fun r9 G1 q => ?_)
    obtain ⟨rfl, rfl⟩ := q
    refine hX.run (ft := []) (ct := ctX2) (oc := []) kX2_ofProjective_ok xnof ctX2_ok xnoc [] [9] [] 80 ?_
    refine hX.callV [0, 1, 2, 3, 4, 5] [.long 2, .long (zl (x 0 + x 4 + x 8))] (k_oval l (ovs x).1 hn3 va _ _ _ _ 0 hk) yX6_value_ok lkX2_42 ivX6_value slX6_value ⟨rfl, rfl, by decide, by decide⟩ (kX2_ofProjective_ok.at 43 rfl) rfl rfl (xrs_ok rfl) rfl rfl rfl ⟨rfl, rfl, rfl, rfl, rfl, rfl, trivial⟩ rfl (fun _ _ q => by rw [q.2]) (fun r9 G1 q => ?_)
    obtain ⟨rfl, rfl⟩ := q
    rw [hv]
    have late : ∀ w : Int64, w = zl (tr3 x - 2 * (ovs x).2 0) → X 49 [some (.ref 6), some (.ref 0), some (.int (nI 0)), some (.long w), none] [] [.inr (4, [.ref 1, .ref 2, .ref 3, .ref 4, .ref 5, .int (nI (ovs x).1)]), .inl (3, .inr (.inl (va))), .inl (9, .inr (.inl (fun i => zl (lss x ((ovs x).2 0) i)))), .inl (9, .inr (.inl (fun i => zl (adj9 (lss x ((ovs x).2 0)) i)))), .inl (9, .inr (.inl (fun i => zl (tr9 (adj9 (lss x ((ovs x).2 0))) i)))), .inl (3, .inr (.inl (fr2))), .inl (9, .inr (.inl (fun i => zl (x i))))] := by
      rintro _ rfl
      refine hX.run (ft := []) (ct := ctX2) (oc := []) kX2_ofProjective_ok xnof ctX2_ok xnoc [] [9] [] 80 ?_
      refine hX.callV [0, 1, 2, 3, 4, 5] [.long (zl (tr3 x - 2 * (ovs x).2 0))] (k_oval l (ovs x).1 hn3 va _ _ _ _ 0 hk) yX6_value_ok lkX2_42 ivX6_value slX6_value ⟨rfl, rfl, by decide, by decide⟩ (kX2_ofProjective_ok.at 52 rfl) rfl rfl (xrs_ok rfl) rfl rfl rfl ⟨rfl, rfl, rfl, rfl, rfl, rfl, trivial⟩ rfl (fun _ _ q => by rw [q.2]) (fun r9 G1 q => ?_)
      obtain ⟨rfl, rfl⟩ := q
      rw [hv]
      refine hX.run (ft := []) (ct := ctX2) (oc := []) kX2_ofProjective_ok xnof ctX2_ok xnoc [] [9] [] 80 ?_
      refine ⟨fun h6 => ?_, fun h6 => ?_⟩
      · have g : tr3 x - 2 * (ovs x).2 0 = (ovs x).2 0 := lce h6 rfl rfl j2 jv
        have e : cpl x 3 0 = 13 := by rw [ec, cpw, if_pos g]
        rw [e]
        exact ⟨_, _, _, _, _, _, rfl, rfl⟩
      have g : ¬ tr3 x - 2 * (ovs x).2 0 = (ovs x).2 0 := lcn h6 rfl rfl
      refine hX.callV [0, 1, 2, 3, 4, 5] [.long (zl (tr3 x - 2 * (ovs x).2 0))] (k_oval l (ovs x).1 hn3 va _ _ _ _ 0 hk) yX6_value_ok lkX2_42 ivX6_value slX6_value ⟨rfl, rfl, by decide, by decide⟩ (kX2_ofProjective_ok.at 67 rfl) rfl rfl (xrs_ok rfl) rfl rfl rfl ⟨rfl, rfl, rfl, rfl, rfl, rfl, trivial⟩ rfl (fun _ _ q => by rw [q.2]) (fun r9 G1 q => ?_)
      obtain ⟨rfl, rfl⟩ := q
      rw [hv]
      refine hX.run (ft := []) (ct := ctX2) (oc := []) kX2_ofProjective_ok xnof ctX2_ok xnoc [] [9] [] 80 ?_
      refine ⟨fun h6 => ?_, fun h6 => ?_⟩
      · have g2 : tr3 x - 2 * (ovs x).2 0 = - (ovs x).2 0 := lce h6 rfl (zl_neg _) j2 ⟨by omega, by omega⟩
        have e : cpl x 3 0 = 14 := by rw [ec, cpw, if_neg g, if_pos g2]
        rw [e]
        exact ⟨_, _, _, _, _, _, rfl, rfl⟩
      · have g2 : ¬ tr3 x - 2 * (ovs x).2 0 = - (ovs x).2 0 := lcn h6 rfl (zl_neg _)
        have e : cpl x 3 0 = 15 := by rw [ec, cpw, if_neg g, if_neg g2]
        rw [e]
        exact ⟨_, _, _, _, _, _, rfl, rfl⟩
    refine hX.run (ft := []) (ct := ctX2) (oc := []) kX2_ofProjective_ok xnof ctX2_ok xnoc [49] [9] [] 80 ?_
    refine late _ ?_
    have e2 : (2 : Int64) = zl 2 := rfl
    rw [e2, zl_mul, zl_sub]
    rfl
  refine hX.run (ft := []) (ct := ctX2) (oc := []) kX2_ofProjective_ok xnof ctX2_ok xnoc [] [] [] 80 ?_
  refine hX.callV [0, 1, 2, 3, 4, 5, 6] [] (k_ofind l x hx n va le mi co fr) yX6_find_ok lkX2_32 ivX6_find slX6_find ⟨rfl, rfl, by decide, by decide⟩ (kX2_ofProjective_ok.at 2 rfl) rfl rfl (by decide) rfl rfl rfl ⟨rfl, rfl, rfl, rfl, rfl, rfl, rfl, trivial⟩ rfl (fun _ _ q => by obtain ⟨_, -, -, rfl⟩ := q; rfl) (fun r9 G1 q => ?_)
  obtain ⟨va2, rfl, hva, rfl⟩ := q
  refine hX.run (ft := []) (ct := ctX2) (oc := []) kX2_ofProjective_ok xnof ctX2_ok xnoc [7] [] [] 80 ?_
  exact s0 rfl va2 le _ co fr hva
