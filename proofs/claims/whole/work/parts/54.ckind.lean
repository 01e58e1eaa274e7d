/-! the class: images and kinds -/
set_option maxHeartbeats 4000000 in
set_option maxRecDepth 100000 in
theorem k_ofLine (l : Launch) (x p : Nat → Int) (iv tu fo ha f : Nat → Int64) : xM l yX1_ofLine cX1_ofLine 4 (none : Option FieldType) rX1_ofLine [.ref 0, .ref 5, .ref 6, .ref 7] [.inr (1, [.ref 1, .ref 2, .ref 3, .ref 4]), .inl (9, .inr (.inl (iv))), .inl (9, .inr (.inl (tu))), .inl (9, .inr (.inl (fo))), .inl (9, .inr (.inl (ha))), .inl (9, .inr (.inl (fun i => zl (x i)))), .inl (3, .inr (.inl (fun i => zl (p i)))), .inl (3, .inr (.inl (f)))] (fun r G => ∃ iv' tu', r = none ∧ G = [.inr (1, [.ref 1, .ref 2, .ref 3, .ref 4]), .inl (9, .inr (.inl (iv'))), .inl (9, .inr (.inl (tu'))), .inl (9, .inr (.inl (fo))), .inl (9, .inr (.inl (ha))), .inl (9, .inr (.inl (fun i => zl (x i)))), .inl (3, .inr (.inl (fun i => zl (p i)))), .inl (3, .inr (.inl (fun i => zl (limg (adj9 x) p i))))]) := by
  refine xM.of (by decide) (Nat.le_of_ble_eq_true rfl) (fun X hX => ?_)
  refine hX.run (ft := ftX1) (ct := ctX1) (oc := []) kX1_ofLine_ok ftX1_ok ctX1_ok xnoc [] [] [] 100 ?_
  refine hX.callS [5, 1] [] (k_adjugate l x iv) yX9_adjugate_ok lkX1_24 ssX9_adjugate ⟨rfl, rfl, by decide, by decide⟩ (kX1_ofLine_ok.at 5 rfl) rfl rfl (by decide) ⟨rfl, rfl, trivial⟩ rfl (fun _ _ q => by rw [q.2]; rfl) (fun r9 G1 q => ?_)
  obtain ⟨rfl, rfl⟩ := q
  refine hX.run (ft := ftX1) (ct := ctX1) (oc := []) kX1_ofLine_ok ftX1_ok ctX1_ok xnoc [] [] [] 100 ?_
  refine hX.callS [1, 2] [] (k_transpose l (adj9 x) tu) yX9_transpose_ok lkX1_30 ssX9_transpose ⟨rfl, rfl, by decide, by decide⟩ (kX1_ofLine_ok.at 16 rfl) rfl rfl (by decide) ⟨rfl, rfl, trivial⟩ rfl (fun _ _ q => by rw [q.2]; rfl) (fun r9 G1 q => ?_)
  obtain ⟨rfl, rfl⟩ := q
  refine hX.run (ft := ftX1) (ct := ctX1) (oc := []) kX1_ofLine_ok ftX1_ok ctX1_ok xnoc [] [] [] 100 ?_
  refine hX.callS [2, 6, 7] [] (k_apply l (tr9 (adj9 x)) p f) yX9_apply_ok lkX1_33 ssX9_apply ⟨rfl, rfl, by decide, by decide⟩ (kX1_ofLine_ok.at 25 rfl) rfl rfl (by decide) ⟨rfl, rfl, rfl, trivial⟩ rfl (fun _ _ q => by rw [q.2]; rfl) (fun r9 G1 q => ?_)
  obtain ⟨rfl, rfl⟩ := q
  refine hX.alike (G2 := [.inr (1, [.ref 1, .ref 2, .ref 3, .ref 4]), .inl (9, .inr (.inl (fun i => zl (adj9 x i)))), .inl (9, .inr (.inl (fun i => zl (tr9 (adj9 x) i)))), .inl (9, .inr (.inl (fo))), .inl (9, .inr (.inl (ha))), .inl (9, .inr (.inl (fun i => zl (x i)))), .inl (3, .inr (.inl (fun i => zl (p i)))), .inl (3, .inr (.inl (fun i => zl (limg (adj9 x) p i))))]) ?_ ⟨xsame_rf _, xsame_rf _, xsame_rf _, xsame_rf _, xsame_rf _, xsame_rf _, xsame_rf _, ⟨rfl, fun i hi => ?_⟩, trivial⟩
  · refine hX.run (ft := ftX1) (ct := ctX1) (oc := []) kX1_ofLine_ok ftX1_ok ctX1_ok xnoc [] [] [] 100 ?_
    exact ⟨_, _, rfl, rfl⟩
  · rcases (show i = 0 ∨ i = 1 ∨ i = 2 by omega) with rfl | rfl | rfl <;> rfl
set_option maxHeartbeats 4000000 in
set_option maxRecDepth 100000 in
theorem k_ofConic (l : Launch) (x c : Nat → Int) (iv tu fo ha : Nat → Int64) : xM l yX1_ofConic cX1_ofConic 3 (none : Option FieldType) rX1_ofConic [.ref 0, .ref 5, .ref 6] [.inr (1, [.ref 1, .ref 2, .ref 3, .ref 4]), .inl (9, .inr (.inl (iv))), .inl (9, .inr (.inl (tu))), .inl (9, .inr (.inl (fo))), .inl (9, .inr (.inl (ha))), .inl (9, .inr (.inl (fun i => zl (x i)))), .inl (6, .inr (.inl (fun i => zl (c i))))] (fun r G => ∃ iv' tu' fo' ha', r = none ∧ G = [.inr (1, [.ref 1, .ref 2, .ref 3, .ref 4]), .inl (9, .inr (.inl (iv'))), .inl (9, .inr (.inl (tu'))), .inl (9, .inr (.inl (fo'))), .inl (9, .inr (.inl (ha'))), .inl (9, .inr (.inl (fun i => zl (x i)))), .inl (6, .inr (.inl (fun i => zl (cimg c (adj9 x) i))))]) := by
  refine xM.of (by decide) (Nat.le_of_ble_eq_true rfl) (fun X hX => ?_)
  refine hX.run (ft := ftX1) (ct := ctX1) (oc := []) kX1_ofConic_ok ftX1_ok ctX1_ok xnoc [] [] [] 100 ?_
  refine hX.callS [5, 1] [] (k_adjugate l x iv) yX9_adjugate_ok lkX1_24 ssX9_adjugate ⟨rfl, rfl, by decide, by decide⟩ (kX1_ofConic_ok.at 5 rfl) rfl rfl (by decide) ⟨rfl, rfl, trivial⟩ rfl (fun _ _ q => by rw [q.2]; rfl) (fun r9 G1 q => ?_)
  obtain ⟨rfl, rfl⟩ := q
  refine hX.run (ft := ftX1) (ct := ctX1) (oc := []) kX1_ofConic_ok ftX1_ok ctX1_ok xnoc [] [] [] 100 ?_
  refine hX.callS [1, 2] [] (k_transpose l (adj9 x) tu) yX9_transpose_ok lkX1_30 ssX9_transpose ⟨rfl, rfl, by decide, by decide⟩ (kX1_ofConic_ok.at 16 rfl) rfl rfl (by decide) ⟨rfl, rfl, trivial⟩ rfl (fun _ _ q => by rw [q.2]; rfl) (fun r9 G1 q => ?_)
  obtain ⟨rfl, rfl⟩ := q
  refine hX.run (ft := ftX1) (ct := ctX1) (oc := []) kX1_ofConic_ok ftX1_ok ctX1_ok xnoc [] [] [] 100 ?_
  refine hX.callS [6, 3] [] (k_evenTable l c fo) yX7_evenTable_ok lkX1_37 ssX7_evenTable ⟨rfl, rfl, by decide, by decide⟩ (kX1_ofConic_ok.at 24 rfl) rfl rfl (by decide) ⟨rfl, rfl, trivial⟩ rfl (fun _ _ q => by rw [q.2]; rfl) (fun r9 G1 q => ?_)
  obtain ⟨rfl, rfl⟩ := q
  refine hX.run (ft := ftX1) (ct := ctX1) (oc := []) kX1_ofConic_ok ftX1_ok ctX1_ok xnoc [] [] [] 100 ?_
  refine hX.callS [3, 1, 4] [] (k_product l (ev6 c) (adj9 x) ha) yX9_product_ok lkX1_42 ssX9_product ⟨rfl, rfl, by decide, by decide⟩ (kX1_ofConic_ok.at 39 rfl) rfl rfl (by decide) ⟨rfl, rfl, rfl, trivial⟩ rfl (fun _ _ q => by rw [q.2]; rfl) (fun r9 G1 q => ?_)
  obtain ⟨rfl, rfl⟩ := q
  refine hX.run (ft := ftX1) (ct := ctX1) (oc := []) kX1_ofConic_ok ftX1_ok ctX1_ok xnoc [] [] [] 100 ?_
  refine hX.callS [2, 4, 3] [] (k_product l (tr9 (adj9 x)) (mul9 (ev6 c) (adj9 x)) _) yX9_product_ok lkX1_42 ssX9_product ⟨rfl, rfl, by decide, by decide⟩ (kX1_ofConic_ok.at 54 rfl) rfl rfl (by decide) ⟨rfl, rfl, rfl, trivial⟩ rfl (fun _ _ q => by rw [q.2]; rfl) (fun r9 G1 q => ?_)
  obtain ⟨rfl, rfl⟩ := q
  refine hX.run (ft := ftX1) (ct := ctX1) (oc := []) kX1_ofConic_ok ftX1_ok ctX1_ok xnoc [124] [] [] 100 ?_
  refine hX.alike (G2 := [.inr (1, [.ref 1, .ref 2, .ref 3, .ref 4]), .inl (9, .inr (.inl (fun i => zl (adj9 x i)))), .inl (9, .inr (.inl (fun i => zl (tr9 (adj9 x) i)))), .inl (9, .inr (.inl (fun i => zl (mul9 (tr9 (adj9 x)) (mul9 (ev6 c) (adj9 x)) i)))), .inl (9, .inr (.inl (fun i => zl (mul9 (ev6 c) (adj9 x) i)))), .inl (9, .inr (.inl (fun i => zl (x i)))), .inl (6, .inr (.inl (fun i => zl (cimg c (adj9 x) i))))]) ?_ ⟨xsame_rf _, xsame_rf _, xsame_rf _, xsame_rf _, xsame_rf _, xsame_rf _, ⟨rfl, fun i hi => ?_⟩, trivial⟩
  · refine hX.run (ft := ftX1) (ct := ctX1) (oc := []) kX1_ofConic_ok ftX1_ok ctX1_ok xnoc [] [] [] 100 ?_
    exact ⟨_, _, _, _, rfl, rfl⟩
  · have e2 : (2 : Int64) = zl 2 := rfl
    unfold vp_updL
    simp only [e2, zl_mul]
    rcases (show i = 0 ∨ i = 1 ∨ i = 2 ∨ i = 3 ∨ i = 4 ∨ i = 5 by omega) with rfl | rfl | rfl | rfl | rfl | rfl <;> rfl
def klp (x : Nat → Int) : Prop := (x 0 - x 8) * (x 4 - x 8) = x 1 * x 3 ∧ (x 0 - x 8) * x 5 = x 2 * x 3 ∧ x 1 * x 5 = x 2 * (x 4 - x 8)
def klpB (x : Nat → Int) : Bool := decide ((x 0 - x 8) * (x 4 - x 8) = x 1 * x 3 ∧ (x 0 - x 8) * x 5 = x 2 * x 3 ∧ x 1 * x 5 = x 2 * (x 4 - x 8))
def szB (x : Nat → Int) : Bool := decide (x 0 * x 0 + x 1 * x 1 = x 8 * x 8)
def farP (x : Nat → Int) : Bool := decide (x 6 = 0 ∧ x 7 = 0)
def clik (x : Nat → Int) : Nat := if x 1 = 0 ∧ x 0 = x 8 then (if all9 x then 0 else 1) else if x 1 = 0 then (if x 0 = - x 8 then 2 else 4) else if szB x then 3 else 5
def cturn (x : Nat → Int) : Nat := if szB x then (if klpB x then 6 else 7) else 8
def careaI (x : Nat → Int) : Int := x 0 * x 4 - x 1 * x 3
def caff (x : Nat → Int) : Nat := if x 0 = x 4 ∧ x 1 = - x 3 then clik x else if x 0 = - x 4 ∧ x 1 = x 3 then cturn x else if klpB x then (if careaI x = x 8 * x 8 then 9 else 10) else if (careaI x).natAbs = x 8 * x 8 then 11 else 12
set_option maxHeartbeats 4000000 in
set_option maxRecDepth 100000 in
theorem k_allStays (l : Launch) (x : Nat → Int) (hx : ∀ i, i < 9 → ab (x i) 500) : xM l yX2_allStays cX2_allStays 2 (some .boolean) rX2_allStays [.ref 0] [.inl (9, .inr (.inl (fun i => zl (x i))))] (fun r G => r = some (.int (bI (decide (all9 x)))) ∧ G = [.inl (9, .inr (.inl (fun i => zl (x i))))]) := by
  refine xM.of (by decide) (Nat.le_of_ble_eq_true rfl) (fun X hX => ?_)
  have j0 : jr 0 := ⟨by omega, by omega⟩
  have jx : ∀ i, i < 9 → jr (x i) := fun i hi => ab_jr (hx i hi) (by decide)
  have jn : ∀ i, i < 9 → jr (- x i) := fun i hi => by have := hx i hi; exact ⟨by have := this.2; omega, by have := this.1; omega⟩
  have no : ¬ all9 x → X 55 [some (.ref 0), none] [.int (Int32.ofInt 0)] [.inl (9, .inr (.inl (fun i => zl (x i))))] := by
    intro h
    refine hX.run (ft := []) (ct := ctX2) (oc := []) kX2_allStays_ok xnof ctX2_ok xnoc [] [57] [] 100 ?_
    rw [decide_eq_false h]
    exact ⟨rfl, rfl, rfl⟩
  refine hX.run (ft := []) (ct := ctX2) (oc := []) kX2_allStays_ok xnof ctX2_ok xnoc [55] [] [] 100 ?_
  refine ⟨fun h => ?_, fun h => no (fun q => (lcn h rfl rfl : ¬ x 1 = 0) q.2.2.1)⟩
  have g1 : x 1 = 0 := lce h rfl rfl (jx 1 (by omega)) j0
  refine ⟨fun h => ?_, fun h => no (fun q => (lcn h rfl rfl : ¬ x 2 = 0) q.2.2.2.1)⟩
  have g2 : x 2 = 0 := lce h rfl rfl (jx 2 (by omega)) j0
  refine ⟨fun h => ?_, fun h => no (fun q => (lcn h rfl rfl : ¬ x 3 = 0) q.2.2.2.2.1)⟩
  have g3 : x 3 = 0 := lce h rfl rfl (jx 3 (by omega)) j0
  refine ⟨fun h => ?_, fun h => no (fun q => (lcn h rfl rfl : ¬ x 5 = 0) q.2.2.2.2.2.1)⟩
  have g5 : x 5 = 0 := lce h rfl rfl (jx 5 (by omega)) j0
  refine ⟨fun h => ?_, fun h => no (fun q => (lcn h rfl rfl : ¬ x 6 = 0) q.2.2.2.2.2.2.1)⟩
  have g6 : x 6 = 0 := lce h rfl rfl (jx 6 (by omega)) j0
  refine ⟨fun h => ?_, fun h => no (fun q => (lcn h rfl rfl : ¬ x 7 = 0) q.2.2.2.2.2.2.2)⟩
  have g7 : x 7 = 0 := lce h rfl rfl (jx 7 (by omega)) j0
  refine hX.run (ft := []) (ct := ctX2) (oc := []) kX2_allStays_ok xnof ctX2_ok xnoc [] [57] [] 100 ?_
  refine ⟨fun h => ?_, fun h => ?_⟩
  rotate_left
  · have g : ¬ x 0 = x 4 := lcn h rfl rfl
    rw [decide_eq_false (fun q => g q.1)]
    exact ⟨rfl, rfl, rfl⟩
  have ga : x 0 = x 4 := lce h rfl rfl (jx 0 (by omega)) (jx 4 (by omega))
  refine ⟨fun h => ?_, fun h => ?_⟩
  rotate_left
  · have g : ¬ x 4 = x 8 := lcn h rfl rfl
    rw [decide_eq_false (fun q => g q.2.1)]
    exact ⟨rfl, rfl, rfl⟩
  have gb : x 4 = x 8 := lce h rfl rfl (jx 4 (by omega)) (jx 8 (by omega))
  rw [decide_eq_true ⟨ga, gb, g1, g2, g3, g5, g6, g7⟩]
  exact ⟨rfl, rfl, rfl⟩
set_option maxHeartbeats 4000000 in
set_option maxRecDepth 100000 in
theorem k_keepsFar (l : Launch) (x : Nat → Int) (hx : ∀ i, i < 9 → ab (x i) 500) : xM l yX2_keepsFar cX2_keepsFar 1 (some .boolean) rX2_keepsFar [.ref 0] [.inl (9, .inr (.inl (fun i => zl (x i))))] (fun r G => r = some (.int (bI (farP x))) ∧ G = [.inl (9, .inr (.inl (fun i => zl (x i))))]) := by
  refine xM.of (by decide) (Nat.le_of_ble_eq_true rfl) (fun X hX => ?_)
  have j0 : jr 0 := ⟨by omega, by omega⟩
  have jx : ∀ i, i < 9 → jr (x i) := fun i hi => ab_jr (hx i hi) (by decide)
  have jn : ∀ i, i < 9 → jr (- x i) := fun i hi => by have := hx i hi; exact ⟨by have := this.2; omega, by have := this.1; omega⟩
  refine hX.run (ft := []) (ct := ctX2) (oc := []) kX2_keepsFar_ok xnof ctX2_ok xnoc [] [] [] 100 ?_
  refine ⟨fun h => ?_, fun h => ?_⟩
  rotate_left
  · have g : ¬ x 6 = 0 := lcn h rfl rfl
    have e : farP x = false := decide_eq_false (fun q => g (q.1))
    rw [e]
    exact ⟨rfl, rfl, rfl⟩
  have g0 : x 6 = 0 := lce h rfl rfl (jx 6 (by omega)) j0
  refine ⟨fun h => ?_, fun h => ?_⟩
  rotate_left
  · have g : ¬ x 7 = 0 := lcn h rfl rfl
    have e : farP x = false := decide_eq_false (fun q => g (q.2))
    rw [e]
    exact ⟨rfl, rfl, rfl⟩
  have g1 : x 7 = 0 := lce h rfl rfl (jx 7 (by omega)) j0
  have e : farP x = true := decide_eq_true ⟨g0, g1⟩
  rw [e]
  exact ⟨rfl, rfl, rfl⟩
set_option maxHeartbeats 4000000 in
set_option maxRecDepth 100000 in
theorem k_keepsSizes (l : Launch) (x : Nat → Int) (hx : ∀ i, i < 9 → ab (x i) 500) : xM l yX2_keepsSizes cX2_keepsSizes 1 (some .boolean) rX2_keepsSizes [.ref 0] [.inl (9, .inr (.inl (fun i => zl (x i))))] (fun r G => r = some (.int (bI (szB x))) ∧ G = [.inl (9, .inr (.inl (fun i => zl (x i))))]) := by
  refine xM.of (by decide) (Nat.le_of_ble_eq_true rfl) (fun X hX => ?_)
  have j0 : jr 0 := ⟨by omega, by omega⟩
  have jx : ∀ i, i < 9 → jr (x i) := fun i hi => ab_jr (hx i hi) (by decide)
  have jn : ∀ i, i < 9 → jr (- x i) := fun i hi => by have := hx i hi; exact ⟨by have := this.2; omega, by have := this.1; omega⟩
  have jq : ∀ i k, i < 9 → k < 9 → ab (x i * x k) 250000 := fun i k hi hk => ab_le (ab_mul (hx i hi) (hx k hk)) (by decide)
  have js : jr (x 0 * x 0 + x 1 * x 1) := ab_jr (ab_add (jq 0 0 (by omega) (by omega)) (jq 1 1 (by omega) (by omega))) (by decide)
  have jg : jr (x 8 * x 8) := ab_jr (jq 8 8 (by omega) (by omega)) (by decide)
  refine hX.run (ft := []) (ct := ctX2) (oc := []) kX2_keepsSizes_ok xnof ctX2_ok xnoc [] [] [] 100 ?_
  refine ⟨fun h => ?_, fun h => ?_⟩
  rotate_left
  · have g : ¬ x 0 * x 0 + x 1 * x 1 = x 8 * x 8 := lcn h (by simp only [zl_mul, zl_add, zl_sub]) (by simp only [zl_mul, zl_add, zl_sub])
    have e : szB x = false := decide_eq_false (fun q => g (q))
    rw [e]
    exact ⟨rfl, rfl, rfl⟩
  have g0 : x 0 * x 0 + x 1 * x 1 = x 8 * x 8 := lce h (by simp only [zl_mul, zl_add, zl_sub]) (by simp only [zl_mul, zl_add, zl_sub]) js jg
  have e : szB x = true := decide_eq_true g0
  rw [e]
  exact ⟨rfl, rfl, rfl⟩
set_option maxHeartbeats 4000000 in
set_option maxRecDepth 100000 in
theorem k_klp (l : Launch) (x : Nat → Int) (hx : ∀ i, i < 9 → ab (x i) 500) : xM l yX2_keepsLineOfPoints cX2_keepsLineOfPoints 5 (some .boolean) rX2_keepsLineOfPoints [.ref 0] [.inl (9, .inr (.inl (fun i => zl (x i))))] (fun r G => r = some (.int (bI (klpB x))) ∧ G = [.inl (9, .inr (.inl (fun i => zl (x i))))]) := by
  refine xM.of (by decide) (Nat.le_of_ble_eq_true rfl) (fun X hX => ?_)
  have j0 : jr 0 := ⟨by omega, by omega⟩
  have jx : ∀ i, i < 9 → jr (x i) := fun i hi => ab_jr (hx i hi) (by decide)
  have jn : ∀ i, i < 9 → jr (- x i) := fun i hi => by have := hx i hi; exact ⟨by have := this.2; omega, by have := this.1; omega⟩
  have jd : ∀ i, i < 9 → ab (x i - x 8) 1000 := fun i hi => ab_le (ab_sub (hx i hi) (hx 8 (by omega))) (by decide)
  have jq : ∀ i k, i < 9 → k < 9 → jr (x i * x k) := fun i k hi hk => ab_jr (ab_mul (hx i hi) (hx k hk)) (by decide)
  have jm : ∀ i k, i < 9 → k < 9 → jr ((x i - x 8) * x k) := fun i k hi hk => ab_jr (ab_mul (jd i hi) (hx k hk)) (by decide)
  have jm2 : jr ((x 0 - x 8) * (x 4 - x 8)) := ab_jr (ab_mul (jd 0 (by omega)) (jd 4 (by omega))) (by decide)
  have jm3 : jr (x 2 * (x 4 - x 8)) := ab_jr (ab_mul (hx 2 (by omega)) (jd 4 (by omega))) (by decide)
  refine hX.run (ft := []) (ct := ctX2) (oc := []) kX2_keepsLineOfPoints_ok xnof ctX2_ok xnoc [] [] [] 100 ?_
  refine ⟨fun h => ?_, fun h => ?_⟩
  rotate_left
  · have g : ¬ (x 0 - x 8) * (x 4 - x 8) = x 1 * x 3 := lcn h (by simp only [zl_mul, zl_add, zl_sub]) (by simp only [zl_mul, zl_add, zl_sub])
    have e : klpB x = false := decide_eq_false (fun q => g (q.1))
    rw [e]
    exact ⟨rfl, rfl, rfl⟩
  have g0 : (x 0 - x 8) * (x 4 - x 8) = x 1 * x 3 := lce h (by simp only [zl_mul, zl_add, zl_sub]) (by simp only [zl_mul, zl_add, zl_sub]) jm2 (jq 1 3 (by omega) (by omega))
  refine ⟨fun h => ?_, fun h => ?_⟩
  rotate_left
  · have g : ¬ (x 0 - x 8) * x 5 = x 2 * x 3 := lcn h (by simp only [zl_mul, zl_add, zl_sub]) (by simp only [zl_mul, zl_add, zl_sub])
    have e : klpB x = false := decide_eq_false (fun q => g (q.2.1))
    rw [e]
    exact ⟨rfl, rfl, rfl⟩
  have g1 : (x 0 - x 8) * x 5 = x 2 * x 3 := lce h (by simp only [zl_mul, zl_add, zl_sub]) (by simp only [zl_mul, zl_add, zl_sub]) (jm 0 5 (by omega) (by omega)) (jq 2 3 (by omega) (by omega))
  refine ⟨fun h => ?_, fun h => ?_⟩
  rotate_left
  · have g : ¬ x 1 * x 5 = x 2 * (x 4 - x 8) := lcn h (by simp only [zl_mul, zl_add, zl_sub]) (by simp only [zl_mul, zl_add, zl_sub])
    have e : klpB x = false := decide_eq_false (fun q => g (q.2.2))
    rw [e]
    exact ⟨rfl, rfl, rfl⟩
  have g2 : x 1 * x 5 = x 2 * (x 4 - x 8) := lce h (by simp only [zl_mul, zl_add, zl_sub]) (by simp only [zl_mul, zl_add, zl_sub]) (jq 1 5 (by omega) (by omega)) jm3
  have e : klpB x = true := decide_eq_true ⟨g0, g1, g2⟩
  rw [e]
  exact ⟨rfl, rfl, rfl⟩
set_option maxHeartbeats 4000000 in
set_option maxRecDepth 100000 in
theorem k_ofLikeness (l : Launch) (x : Nat → Int) (hx : ∀ i, i < 9 → ab (x i) 500) : xM l yX2_ofLikeness cX2_ofLikeness 1 (some .int) rX2_ofLikeness [.ref 0] [.inl (9, .inr (.inl (fun i => zl (x i))))] (fun r G => r = some (.int (nI (clik x))) ∧ G = [.inl (9, .inr (.inl (fun i => zl (x i))))]) := by
  refine xM.of (by decide) (Nat.le_of_ble_eq_true rfl) (fun X hX => ?_)
  have j0 : jr 0 := ⟨by omega, by omega⟩
  have jx : ∀ i, i < 9 → jr (x i) := fun i hi => ab_jr (hx i hi) (by decide)
  have jn : ∀ i, i < 9 → jr (- x i) := fun i hi => by have := hx i hi; exact ⟨by have := this.2; omega, by have := this.1; omega⟩
  have fin : ∀ k : Nat, clik x = k → some (Value.int (nI k)) = some (.int (nI (clik x))) ∧ ([.inl (9, .inr (.inl (fun i => zl (x i))))] : List xE) = [.inl (9, .inr (.inl (fun i => zl (x i))))] := fun k h => by rw [h]; exact ⟨rfl, rfl⟩
  have two : ¬ (x 1 = 0 ∧ x 0 = x 8) → X 32 [some (.ref 0)] [] [.inl (9, .inr (.inl (fun i => zl (x i))))] := by
    intro n1
    refine hX.run (ft := []) (ct := ctX2) (oc := []) kX2_ofLikeness_ok xnof ctX2_ok xnoc [] [] [] 100 ?_
    refine ⟨fun h => ?_, fun h => ?_⟩
    · have g : x 1 = 0 := lce h rfl rfl (jx 1 (by omega)) j0
      refine ⟨fun h => ?_, fun h => ?_⟩
      · have g2 : x 0 = - x 8 := lce h rfl (zl_neg _) (jx 0 (by omega)) (jn 8 (by omega))
        exact fin 2 (by unfold clik; rw [if_neg n1, if_pos g, if_pos g2])
      · have g2 : ¬ x 0 = - x 8 := lcn h rfl (zl_neg _)
        exact fin 4 (by unfold clik; rw [if_neg n1, if_pos g, if_neg g2])
    · have g : ¬ x 1 = 0 := lcn h rfl rfl
      refine hX.callS [0] [] (k_keepsSizes l x hx) yX2_keepsSizes_ok lkX2_29 ssX2_keepsSizes ⟨rfl, rfl, by decide, by decide⟩ (kX2_ofLikeness_ok.at 59 rfl) rfl rfl (by decide) ⟨rfl, trivial⟩ rfl (fun _ _ q => by rw [q.2]) (fun r9 G1 q => ?_)
      obtain ⟨rfl, rfl⟩ := q
      refine hX.run (ft := []) (ct := ctX2) (oc := []) kX2_ofLikeness_ok xnof ctX2_ok xnoc [] [] [] 100 ?_
      refine ⟨fun h => ?_, fun h => ?_⟩
      · exact fin 5 (by unfold clik; rw [if_neg n1, if_neg g, bI_0.mp h]; rfl)
      · exact fin 3 (by unfold clik; rw [if_neg n1, if_neg g, bI_t h]; rfl)
  refine hX.run (ft := []) (ct := ctX2) (oc := []) kX2_ofLikeness_ok xnof ctX2_ok xnoc [32] [] [] 100 ?_
  refine ⟨fun h => ?_, fun h => two (fun q => (lcn h rfl rfl : ¬ x 1 = 0) q.1)⟩
  have g1 : x 1 = 0 := lce h rfl rfl (jx 1 (by omega)) j0
  refine ⟨fun h => ?_, fun h => two (fun q => (lcn h rfl rfl : ¬ x 0 = x 8) q.2)⟩
  have g2 : x 0 = x 8 := lce h rfl rfl (jx 0 (by omega)) (jx 8 (by omega))
  refine hX.callS [0] [] (k_allStays l x hx) yX2_allStays_ok lkX2_26 ssX2_allStays ⟨rfl, rfl, by decide, by decide⟩ (kX2_ofLikeness_ok.at 20 rfl) rfl rfl (by decide) ⟨rfl, trivial⟩ rfl (fun _ _ q => by rw [q.2]) (fun r9 G1 q => ?_)
  obtain ⟨rfl, rfl⟩ := q
  refine hX.run (ft := []) (ct := ctX2) (oc := []) kX2_ofLikeness_ok xnof ctX2_ok xnoc [] [] [] 100 ?_
  refine ⟨fun h => ?_, fun h => ?_⟩
  · exact fin 1 (by unfold clik; rw [if_pos ⟨g1, g2⟩, if_neg (of_decide_eq_false (bI_0.mp h))])
  · exact fin 0 (by unfold clik; rw [if_pos ⟨g1, g2⟩, if_pos (of_decide_eq_true (bI_t h))])
set_option maxHeartbeats 4000000 in
set_option maxRecDepth 100000 in
theorem k_ofTurned (l : Launch) (x : Nat → Int) (hx : ∀ i, i < 9 → ab (x i) 500) : xM l yX2_ofTurnedOver cX2_ofTurnedOver 1 (some .int) rX2_ofTurnedOver [.ref 0] [.inl (9, .inr (.inl (fun i => zl (x i))))] (fun r G => r = some (.int (nI (cturn x))) ∧ G = [.inl (9, .inr (.inl (fun i => zl (x i))))]) := by
  refine xM.of (by decide) (Nat.le_of_ble_eq_true rfl) (fun X hX => ?_)
  have fin : ∀ k : Nat, cturn x = k → some (Value.int (nI k)) = some (.int (nI (cturn x))) ∧ ([.inl (9, .inr (.inl (fun i => zl (x i))))] : List xE) = [.inl (9, .inr (.inl (fun i => zl (x i))))] := fun k h => by rw [h]; exact ⟨rfl, rfl⟩
  refine hX.run (ft := []) (ct := ctX2) (oc := []) kX2_ofTurnedOver_ok xnof ctX2_ok xnoc [] [] [] 100 ?_
  refine hX.callS [0] [] (k_keepsSizes l x hx) yX2_keepsSizes_ok lkX2_29 ssX2_keepsSizes ⟨rfl, rfl, by decide, by decide⟩ (kX2_ofTurnedOver_ok.at 1 rfl) rfl rfl (by decide) ⟨rfl, trivial⟩ rfl (fun _ _ q => by rw [q.2]) (fun r9 G1 q => ?_)
  obtain ⟨rfl, rfl⟩ := q
  refine hX.run (ft := []) (ct := ctX2) (oc := []) kX2_ofTurnedOver_ok xnof ctX2_ok xnoc [] [] [] 100 ?_
  refine ⟨fun h => ?_, fun h => ?_⟩
  · exact fin 8 (by unfold cturn; rw [bI_0.mp h]; rfl)
  have h1 := bI_t h
  refine hX.callS [0] [] (k_klp l x hx) yX2_keepsLineOfPoints_ok lkX2_16 ssX2_keepsLineOfPoints ⟨rfl, rfl, by decide, by decide⟩ (kX2_ofTurnedOver_ok.at 11 rfl) rfl rfl (by decide) ⟨rfl, trivial⟩ rfl (fun _ _ q => by rw [q.2]) (fun r9 G1 q => ?_)
  obtain ⟨rfl, rfl⟩ := q
  refine hX.run (ft := []) (ct := ctX2) (oc := []) kX2_ofTurnedOver_ok xnof ctX2_ok xnoc [] [] [] 100 ?_
  refine ⟨fun h => ?_, fun h => ?_⟩
  · exact fin 7 (by unfold cturn; rw [h1, bI_0.mp h]; rfl)
  · exact fin 6 (by unfold cturn; rw [h1, bI_t h]; rfl)
set_option maxHeartbeats 4000000 in
set_option maxRecDepth 100000 in
theorem k_ofAffine (l : Launch) (x : Nat → Int) (hx : ∀ i, i < 9 → ab (x i) 500) : xM l yX2_ofAffine cX2_ofAffine 5 (some .int) rX2_ofAffine [.ref 0] [.inl (9, .inr (.inl (fun i => zl (x i))))] (fun r G => r = some (.int (nI (caff x))) ∧ G = [.inl (9, .inr (.inl (fun i => zl (x i))))]) := by
  refine xM.of (by decide) (Nat.le_of_ble_eq_true rfl) (fun X hX => ?_)
  have j0 : jr 0 := ⟨by omega, by omega⟩
  have jx : ∀ i, i < 9 → jr (x i) := fun i hi => ab_jr (hx i hi) (by decide)
  have jn : ∀ i, i < 9 → jr (- x i) := fun i hi => by have := hx i hi; exact ⟨by have := this.2; omega, by have := this.1; omega⟩
  have fin : ∀ k : Nat, caff x = k → some (Value.int (nI k)) = some (.int (nI (caff x))) ∧ ([.inl (9, .inr (.inl (fun i => zl (x i))))] : List xE) = [.inl (9, .inr (.inl (fun i => zl (x i))))] := fun k h => by rw [h]; exact ⟨rfl, rfl⟩
  have hoc := xoc1 (oAbs_ok hX (idx := 20) lmX2_20 (by decide)) xnoc
  have jq : ∀ i k, i < 9 → k < 9 → ab (x i * x k) 250000 := fun i k hi hk => ab_le (ab_mul (hx i hi) (hx k hk)) (by decide)
  have bar : ab (careaI x) 500000 := ab_le (ab_sub (jq 0 4 (by omega) (by omega)) (jq 1 3 (by omega) (by omega))) (by decide)
  have ja : jr (careaI x) := ab_jr bar (by decide)
  have jg : jr (x 8 * x 8) := ab_jr (jq 8 8 (by omega) (by omega)) (by decide)
  have jab : jr ((careaI x).natAbs : Int) := ⟨by have := bar.1; have := bar.2; omega, by have := bar.1; have := bar.2; omega⟩
  have abv : (if 0 < zl (careaI x) then zl (careaI x) else - zl (careaI x)) = zl ((careaI x).natAbs : Int) := by
    have e : (0 < zl (careaI x)) ↔ 0 < careaI x := zl_lt (a := 0) j0 ja
    by_cases h : 0 < careaI x
    · rw [if_pos (e.mpr h), show (((careaI x).natAbs : Nat) : Int) = careaI x by omega]
    · rw [if_neg (fun q => h (e.mp q)), zl_neg, show (((careaI x).natAbs : Nat) : Int) = -careaI x by omega]
  have last : ∀ w : Int64, w = zl (careaI x) → ¬ (x 0 = x 4 ∧ x 1 = - x 3) → ¬ (x 0 = - x 4 ∧ x 1 = x 3) → X 78 [some (.ref 0), some (.long w), none, some (.long (zl (x 8) * zl (x 8))), none] [] [.inl (9, .inr (.inl (fun i => zl (x i))))] := by
    rintro _ rfl n1 n2
    refine hX.run (ft := []) (ct := ctX2) (oc := [(41, oAbs)]) kX2_ofAffine_ok xnof ctX2_ok hoc [] [] [] 100 ?_
    refine hX.callS [0] [] (k_klp l x hx) yX2_keepsLineOfPoints_ok lkX2_16 ssX2_keepsLineOfPoints ⟨rfl, rfl, by decide, by decide⟩ (kX2_ofAffine_ok.at 79 rfl) rfl rfl (by decide) ⟨rfl, trivial⟩ rfl (fun _ _ q => by rw [q.2]) (fun r9 G1 q => ?_)
    obtain ⟨rfl, rfl⟩ := q
    refine hX.run (ft := []) (ct := ctX2) (oc := [(41, oAbs)]) kX2_ofAffine_ok xnof ctX2_ok hoc [] [] [] 100 ?_
    refine ⟨fun h => ?_, fun h => ?_⟩
    · have k0 := bI_0.mp h
      refine ⟨fun h => ?_, fun h => ?_⟩
      · have g : ((careaI x).natAbs : Int) = x 8 * x 8 := lce h abv (zl_mul _ _) jab jg
        exact fin 11 (by unfold caff; rw [if_neg n1, if_neg n2, k0, if_pos g]; rfl)
      · have g : ¬ ((careaI x).natAbs : Int) = x 8 * x 8 := lcn h abv (zl_mul _ _)
        exact fin 12 (by unfold caff; rw [if_neg n1, if_neg n2, k0, if_neg g]; rfl)
    · have k1 := bI_t h
      refine ⟨fun h => ?_, fun h => ?_⟩
      · have g : careaI x = x 8 * x 8 := lce h rfl (zl_mul _ _) ja jg
        exact fin 9 (by unfold caff; rw [if_neg n1, if_neg n2, k1, if_pos g]; rfl)
      · have g : ¬ careaI x = x 8 * x 8 := lcn h rfl (zl_mul _ _)
        exact fin 10 (by unfold caff; rw [if_neg n1, if_neg n2, k1, if_neg g]; rfl)
  have third : ¬ (x 0 = x 4 ∧ x 1 = - x 3) → ¬ (x 0 = - x 4 ∧ x 1 = x 3) → X 52 [some (.ref 0), none, none, none, none] [] [.inl (9, .inr (.inl (fun i => zl (x i))))] := by
    intro n1 n2
    refine hX.run (ft := []) (ct := ctX2) (oc := [(41, oAbs)]) kX2_ofAffine_ok xnof ctX2_ok hoc [78] [] [] 100 ?_
    exact last _ (by simp only [zl_mul, zl_sub]; rfl) n1 n2
  have second : ¬ (x 0 = x 4 ∧ x 1 = - x 3) → X 26 [some (.ref 0), none, none, none, none] [] [.inl (9, .inr (.inl (fun i => zl (x i))))] := by
    intro n1
    refine hX.run (ft := []) (ct := ctX2) (oc := [(41, oAbs)]) kX2_ofAffine_ok xnof ctX2_ok hoc [52] [] [] 100 ?_
    refine ⟨fun h => ?_, fun h => third n1 (fun q => (lcn h rfl (zl_neg _) : ¬ x 0 = - x 4) q.1)⟩
    have g1 : x 0 = - x 4 := lce h rfl (zl_neg _) (jx 0 (by omega)) (jn 4 (by omega))
    refine ⟨fun h => ?_, fun h => third n1 (fun q => (lcn h rfl rfl : ¬ x 1 = x 3) q.2)⟩
    have g2 : x 1 = x 3 := lce h rfl rfl (jx 1 (by omega)) (jx 3 (by omega))
    refine hX.callS [0] [] (k_ofTurned l x hx) yX2_ofTurnedOver_ok lkX2_13 ssX2_ofTurnedOver ⟨rfl, rfl, by decide, by decide⟩ (kX2_ofAffine_ok.at 48 rfl) rfl rfl (by decide) ⟨rfl, trivial⟩ rfl (fun _ _ q => by rw [q.2]) (fun r9 G1 q => ?_)
    obtain ⟨rfl, rfl⟩ := q
    refine hX.run (ft := []) (ct := ctX2) (oc := [(41, oAbs)]) kX2_ofAffine_ok xnof ctX2_ok hoc [] [] [] 100 ?_
    exact fin _ (by unfold caff; rw [if_neg n1, if_pos ⟨g1, g2⟩])
  refine hX.run (ft := []) (ct := ctX2) (oc := [(41, oAbs)]) kX2_ofAffine_ok xnof ctX2_ok hoc [26] [] [] 100 ?_
  refine ⟨fun h => ?_, fun h => second (fun q => (lcn h rfl rfl : ¬ x 0 = x 4) q.1)⟩
  have g1 : x 0 = x 4 := lce h rfl rfl (jx 0 (by omega)) (jx 4 (by omega))
  refine ⟨fun h => ?_, fun h => second (fun q => (lcn h rfl (zl_neg _) : ¬ x 1 = - x 3) q.2)⟩
  have g2 : x 1 = - x 3 := lce h rfl (zl_neg _) (jx 1 (by omega)) (jn 3 (by omega))
  refine hX.callS [0] [] (k_ofLikeness l x hx) yX2_ofLikeness_ok lkX2_7 ssX2_ofLikeness ⟨rfl, rfl, by decide, by decide⟩ (kX2_ofAffine_ok.at 22 rfl) rfl rfl (by decide) ⟨rfl, trivial⟩ rfl (fun _ _ q => by rw [q.2]) (fun r9 G1 q => ?_)
  obtain ⟨rfl, rfl⟩ := q
  refine hX.run (ft := []) (ct := ctX2) (oc := [(41, oAbs)]) kX2_ofAffine_ok xnof ctX2_ok hoc [] [] [] 100 ?_
  exact fin _ (by unfold caff; rw [if_pos ⟨g1, g2⟩])
