/-! the class: tables and the plane -/
def pr3 (f : Nat → Int64) (r : Nat) (a b c : Int64) (i : Nat) : Int64 := if i = 3 * r + 2 then c else if i = 3 * r + 1 then b else if i = 3 * r then a else f i
set_option maxHeartbeats 4000000 in
set_option maxRecDepth 100000 in
theorem k_putRow (l : Launch) (f : Nat → Int64) (r : Nat) (hr : r < 3) (a b c : Int64) : xM l yX9_putRow cX9_putRow 8 (none : Option FieldType) rX9_putRow [.ref 0, .int (nI r), .long a, .long b, .long c] [.inl (9, .inr (.inl (f)))] (fun r9 G => r9 = none ∧ G = [.inl (9, .inr (.inl (pr3 f r a b c)))]) := by
  refine xM.of (by decide) (Nat.le_of_ble_eq_true rfl) (fun X hX => ?_)
  rcases (show r = 0 ∨ r = 1 ∨ r = 2 by omega) with rfl | rfl | rfl
  · refine hX.run (ft := []) (ct := []) (oc := []) kX9_putRow_ok xnof xnok xnoc [] [1, 6] [] 100 ?_
    exact ⟨rfl, rfl⟩
  · refine hX.run (ft := []) (ct := []) (oc := []) kX9_putRow_ok xnof xnok xnoc [] [1, 6] [] 100 ?_
    exact ⟨rfl, rfl⟩
  · refine hX.run (ft := []) (ct := []) (oc := []) kX9_putRow_ok xnof xnok xnoc [] [1, 6] [] 100 ?_
    exact ⟨rfl, rfl⟩

set_option maxHeartbeats 4000000 in
set_option maxRecDepth 100000 in
theorem k_apply (l : Launch) (x p : Nat → Int) (f : Nat → Int64) : xM l yX9_apply cX9_apply 4 (none : Option FieldType) rX9_apply [.ref 0, .ref 1, .ref 2] [.inl (9, .inr (.inl (fun i => zl (x i)))), .inl (3, .inr (.inl (fun i => zl (p i)))), .inl (3, .inr (.inl (f)))] (fun r G => r = none ∧ G = [.inl (9, .inr (.inl (fun i => zl (x i)))), .inl (3, .inr (.inl (fun i => zl (p i)))), .inl (3, .inr (.inl (fun i => zl (pimg x p i))))]) := by
  refine xM.of (by decide) (Nat.le_of_ble_eq_true rfl) (fun X hX => ?_)
  refine hX.run (ft := []) (ct := []) (oc := []) kX9_apply_ok xnof xnok xnoc [49] [4] [] 300 ?_
  refine hX.alike (G2 := [.inl (9, .inr (.inl (fun i => zl (x i)))), .inl (3, .inr (.inl (fun i => zl (p i)))), .inl (3, .inr (.inl (fun i => zl (pimg x p i))))]) ?_ ⟨xsame_rf _, xsame_rf _, ⟨rfl, fun i hi => ?_⟩, trivial⟩
  · refine hX.run (ft := []) (ct := []) (oc := []) kX9_apply_ok xnof xnok xnoc [] [] [] 100 ?_
    exact ⟨rfl, rfl⟩
  · unfold vp_updL
    simp only [zl_mul, zl_add]
    rcases (show i = 0 ∨ i = 1 ∨ i = 2 by omega) with rfl | rfl | rfl <;> rfl
set_option maxHeartbeats 4000000 in
set_option maxRecDepth 100000 in
theorem k_product (l : Launch) (x y : Nat → Int) (f : Nat → Int64) : xM l yX9_product cX9_product 5 (none : Option FieldType) rX9_product [.ref 0, .ref 1, .ref 2] [.inl (9, .inr (.inl (fun i => zl (x i)))), .inl (9, .inr (.inl (fun i => zl (y i)))), .inl (9, .inr (.inl (f)))] (fun r G => r = none ∧ G = [.inl (9, .inr (.inl (fun i => zl (x i)))), .inl (9, .inr (.inl (fun i => zl (y i)))), .inl (9, .inr (.inl (fun i => zl (mul9 x y i))))]) := by
  refine xM.of (by decide) (Nat.le_of_ble_eq_true rfl) (fun X hX => ?_)
  refine hX.run (ft := []) (ct := []) (oc := []) kX9_product_ok xnof xnok xnoc [77] [4, 13] [] 800 ?_
  refine hX.alike (G2 := [.inl (9, .inr (.inl (fun i => zl (x i)))), .inl (9, .inr (.inl (fun i => zl (y i)))), .inl (9, .inr (.inl (fun i => zl (mul9 x y i))))]) ?_ ⟨xsame_rf _, xsame_rf _, ⟨rfl, fun i hi => ?_⟩, trivial⟩
  · refine hX.run (ft := []) (ct := []) (oc := []) kX9_product_ok xnof xnok xnoc [] [] [] 100 ?_
    exact ⟨rfl, rfl⟩
  · unfold vp_updL
    simp only [zl_mul, zl_add]
    rcases (show i = 0 ∨ i = 1 ∨ i = 2 ∨ i = 3 ∨ i = 4 ∨ i = 5 ∨ i = 6 ∨ i = 7 ∨ i = 8 by omega) with rfl | rfl | rfl | rfl | rfl | rfl | rfl | rfl | rfl <;> rfl
set_option maxHeartbeats 4000000 in
set_option maxRecDepth 100000 in
theorem k_transpose (l : Launch) (x : Nat → Int) (f : Nat → Int64) : xM l yX9_transpose cX9_transpose 3 (none : Option FieldType) rX9_transpose [.ref 0, .ref 1] [.inl (9, .inr (.inl (fun i => zl (x i)))), .inl (9, .inr (.inl (f)))] (fun r G => r = none ∧ G = [.inl (9, .inr (.inl (fun i => zl (x i)))), .inl (9, .inr (.inl (fun i => zl (tr9 x i))))]) := by
  refine xM.of (by decide) (Nat.le_of_ble_eq_true rfl) (fun X hX => ?_)
  refine hX.run (ft := []) (ct := []) (oc := []) kX9_transpose_ok xnof xnok xnoc [] [4] [] 100 ?_
  refine hX.callS [1] [] (k_putRow l _ 0 (by omega) _ _ _) yX9_putRow_ok lkX9_7 ssX9_putRow ⟨rfl, rfl, by decide, by decide⟩ (kX9_transpose_ok.at 23 rfl) rfl rfl (by decide) ⟨rfl, trivial⟩ rfl (fun _ _ q => by rw [q.2]; rfl) (fun r9 G1 q => ?_)
  obtain ⟨rfl, rfl⟩ := q
  refine hX.run (ft := []) (ct := []) (oc := []) kX9_transpose_ok xnof xnok xnoc [] [4] [] 100 ?_
  refine hX.callS [1] [] (k_putRow l _ 1 (by omega) _ _ _) yX9_putRow_ok lkX9_7 ssX9_putRow ⟨rfl, rfl, by decide, by decide⟩ (kX9_transpose_ok.at 23 rfl) rfl rfl (by decide) ⟨rfl, trivial⟩ rfl (fun _ _ q => by rw [q.2]; rfl) (fun r9 G1 q => ?_)
  obtain ⟨rfl, rfl⟩ := q
  refine hX.run (ft := []) (ct := []) (oc := []) kX9_transpose_ok xnof xnok xnoc [] [4] [] 100 ?_
  refine hX.callS [1] [] (k_putRow l _ 2 (by omega) _ _ _) yX9_putRow_ok lkX9_7 ssX9_putRow ⟨rfl, rfl, by decide, by decide⟩ (kX9_transpose_ok.at 23 rfl) rfl rfl (by decide) ⟨rfl, trivial⟩ rfl (fun _ _ q => by rw [q.2]; rfl) (fun r9 G1 q => ?_)
  obtain ⟨rfl, rfl⟩ := q
  refine hX.run (ft := []) (ct := []) (oc := []) kX9_transpose_ok xnof xnok xnoc [32] [4] [] 100 ?_
  refine hX.alike (G2 := [.inl (9, .inr (.inl (fun i => zl (x i)))), .inl (9, .inr (.inl (fun i => zl (tr9 x i))))]) ?_ ⟨xsame_rf _, ⟨rfl, fun i hi => ?_⟩, trivial⟩
  · refine hX.run (ft := []) (ct := []) (oc := []) kX9_transpose_ok xnof xnok xnoc [] [] [] 100 ?_
    exact ⟨rfl, rfl⟩
  · unfold pr3
    rcases (show i = 0 ∨ i = 1 ∨ i = 2 ∨ i = 3 ∨ i = 4 ∨ i = 5 ∨ i = 6 ∨ i = 7 ∨ i = 8 by omega) with rfl | rfl | rfl | rfl | rfl | rfl | rfl | rfl | rfl <;> rfl
set_option maxHeartbeats 4000000 in
set_option maxRecDepth 100000 in
theorem k_adjugate (l : Launch) (x : Nat → Int) (f : Nat → Int64) : xM l yX9_adjugate cX9_adjugate 2 (none : Option FieldType) rX9_adjugate [.ref 0, .ref 1] [.inl (9, .inr (.inl (fun i => zl (x i)))), .inl (9, .inr (.inl (f)))] (fun r G => r = none ∧ G = [.inl (9, .inr (.inl (fun i => zl (x i)))), .inl (9, .inr (.inl (fun i => zl (adj9 x i))))]) := by
  refine xM.of (by decide) (Nat.le_of_ble_eq_true rfl) (fun X hX => ?_)
  refine hX.run (ft := []) (ct := []) (oc := []) kX9_adjugate_ok xnof xnok xnoc [] [] [] 100 ?_
  refine hX.callS [1] [] (k_putRow l _ 0 (by omega) _ _ _) yX9_putRow_ok lkX9_7 ssX9_putRow ⟨rfl, rfl, by decide, by decide⟩ (kX9_adjugate_ok.at 51 rfl) rfl rfl (by decide) ⟨rfl, trivial⟩ rfl (fun _ _ q => by rw [q.2]; rfl) (fun r9 G1 q => ?_)
  obtain ⟨rfl, rfl⟩ := q
  refine hX.run (ft := []) (ct := []) (oc := []) kX9_adjugate_ok xnof xnok xnoc [] [] [] 100 ?_
  refine hX.callS [1] [] (k_putRow l _ 1 (by omega) _ _ _) yX9_putRow_ok lkX9_7 ssX9_putRow ⟨rfl, rfl, by decide, by decide⟩ (kX9_adjugate_ok.at 105 rfl) rfl rfl (by decide) ⟨rfl, trivial⟩ rfl (fun _ _ q => by rw [q.2]; rfl) (fun r9 G1 q => ?_)
  obtain ⟨rfl, rfl⟩ := q
  refine hX.run (ft := []) (ct := []) (oc := []) kX9_adjugate_ok xnof xnok xnoc [] [] [] 100 ?_
  refine hX.callS [1] [] (k_putRow l _ 2 (by omega) _ _ _) yX9_putRow_ok lkX9_7 ssX9_putRow ⟨rfl, rfl, by decide, by decide⟩ (kX9_adjugate_ok.at 159 rfl) rfl rfl (by decide) ⟨rfl, trivial⟩ rfl (fun _ _ q => by rw [q.2]; rfl) (fun r9 G1 q => ?_)
  obtain ⟨rfl, rfl⟩ := q
  refine hX.alike (G2 := [.inl (9, .inr (.inl (fun i => zl (x i)))), .inl (9, .inr (.inl (fun i => zl (adj9 x i))))]) ?_ ⟨xsame_rf _, ⟨rfl, fun i hi => ?_⟩, trivial⟩
  · refine hX.run (ft := []) (ct := []) (oc := []) kX9_adjugate_ok xnof xnok xnoc [] [] [] 100 ?_
    exact ⟨rfl, rfl⟩
  · unfold pr3
    simp only [zl_mul, zl_sub]
    rcases (show i = 0 ∨ i = 1 ∨ i = 2 ∨ i = 3 ∨ i = 4 ∨ i = 5 ∨ i = 6 ∨ i = 7 ∨ i = 8 by omega) with rfl | rfl | rfl | rfl | rfl | rfl | rfl | rfl | rfl
    · exact congrArg zl (by unfold adj9; grind)
    · exact congrArg zl (by unfold adj9; grind)
    · exact congrArg zl (by unfold adj9; grind)
    · exact congrArg zl (by unfold adj9; grind)
    · exact congrArg zl (by unfold adj9; grind)
    · exact congrArg zl (by unfold adj9; grind)
    · exact congrArg zl (by unfold adj9; grind)
    · exact congrArg zl (by unfold adj9; grind)
    · exact congrArg zl (by unfold adj9; grind)

set_option maxHeartbeats 4000000 in
set_option maxRecDepth 100000 in
theorem k_determinant (l : Launch) (x : Nat → Int) : xM l yX9_determinant cX9_determinant 1 (some .long) rX9_determinant [.ref 0] [.inl (9, .inr (.inl (fun i => zl (x i))))] (fun r G => r = some (.long (zl (det9 x))) ∧ G = [.inl (9, .inr (.inl (fun i => zl (x i))))]) := by
  refine xM.of (by decide) (Nat.le_of_ble_eq_true rfl) (fun X hX => ?_)
  refine hX.run (ft := []) (ct := []) (oc := []) kX9_determinant_ok xnof xnok xnoc [] [] [] 100 ?_
  refine ⟨?_, rfl⟩
  simp only [zl_mul, zl_add, zl_sub]
  exact congrArg (fun v => some (Value.long (zl v))) (by unfold det9; grind)
set_option maxHeartbeats 4000000 in
set_option maxRecDepth 100000 in
theorem k_trace (l : Launch) (x : Nat → Int) : xM l yX9_trace cX9_trace 1 (some .long) rX9_trace [.ref 0] [.inl (9, .inr (.inl (fun i => zl (x i))))] (fun r G => r = some (.long (zl (x 0 + x 4 + x 8))) ∧ G = [.inl (9, .inr (.inl (fun i => zl (x i))))]) := by
  refine xM.of (by decide) (Nat.le_of_ble_eq_true rfl) (fun X hX => ?_)
  refine hX.run (ft := []) (ct := []) (oc := []) kX9_trace_ok xnof xnok xnoc [] [] [] 100 ?_
  refine ⟨?_, rfl⟩
  simp only [zl_add]
set_option maxHeartbeats 4000000 in
set_option maxRecDepth 100000 in
theorem k_dot (l : Launch) (u v : Nat → Int) : xM l yX7_dot cX7_dot 2 (some .long) rX7_dot [.ref 0, .ref 1] [.inl (3, .inr (.inl (fun i => zl (u i)))), .inl (3, .inr (.inl (fun i => zl (v i))))] (fun r G => r = some (.long (zl (dt3 u v))) ∧ G = [.inl (3, .inr (.inl (fun i => zl (u i)))), .inl (3, .inr (.inl (fun i => zl (v i))))]) := by
  refine xM.of (by decide) (Nat.le_of_ble_eq_true rfl) (fun X hX => ?_)
  refine hX.run (ft := []) (ct := ctX7) (oc := []) kX7_dot_ok xnof ctX7_ok xnoc [] [] [] 100 ?_
  refine ⟨?_, rfl⟩
  simp only [zl_mul, zl_add]
  rfl
set_option maxHeartbeats 4000000 in
set_option maxRecDepth 100000 in
theorem k_wedgeCell (l : Launch) (u v : Nat → Int) (i : Nat) (hi : i < 3) : xM l yX7_wedgeCell cX7_wedgeCell 3 (some .long) rX7_wedgeCell [.ref 0, .ref 1, .int (nI i)] [.inl (3, .inr (.inl (fun i => zl (u i)))), .inl (3, .inr (.inl (fun i => zl (v i))))] (fun r G => r = some (.long (zl (crs u v i))) ∧ G = [.inl (3, .inr (.inl (fun i => zl (u i)))), .inl (3, .inr (.inl (fun i => zl (v i))))]) := by
  refine xM.of (by decide) (Nat.le_of_ble_eq_true rfl) (fun X hX => ?_)
  rcases (show i = 0 ∨ i = 1 ∨ i = 2 by omega) with rfl | rfl | rfl
  · refine hX.run (ft := []) (ct := ctX7) (oc := []) kX7_wedgeCell_ok xnof ctX7_ok xnoc [] [] [] 100 ?_
    refine hX.look (off := 27) (tgt := 28) (kX7_wedgeCell_ok.at 1 rfl) (by decide) (by decide) (by decide) ?_
    refine hX.run (ft := []) (ct := ctX7) (oc := []) kX7_wedgeCell_ok xnof ctX7_ok xnoc [] [] [] 100 ?_
    refine ⟨?_, rfl⟩
    simp only [zl_mul, zl_sub]
    rfl
  · refine hX.run (ft := []) (ct := ctX7) (oc := []) kX7_wedgeCell_ok xnof ctX7_ok xnoc [] [] [] 100 ?_
    refine hX.look (off := 43) (tgt := 44) (kX7_wedgeCell_ok.at 1 rfl) (by decide) (by decide) (by decide) ?_
    refine hX.run (ft := []) (ct := ctX7) (oc := []) kX7_wedgeCell_ok xnof ctX7_ok xnoc [] [] [] 100 ?_
    refine ⟨?_, rfl⟩
    simp only [zl_mul, zl_sub]
    rfl
  · refine hX.run (ft := []) (ct := ctX7) (oc := []) kX7_wedgeCell_ok xnof ctX7_ok xnoc [] [] [] 100 ?_
    refine hX.look (off := 59) (tgt := 60) (kX7_wedgeCell_ok.at 1 rfl) (by decide) (by decide) (by decide) ?_
    refine hX.run (ft := []) (ct := ctX7) (oc := []) kX7_wedgeCell_ok xnof ctX7_ok xnoc [] [] [] 100 ?_
    refine ⟨?_, rfl⟩
    simp only [zl_mul, zl_sub]
    rfl

set_option maxHeartbeats 4000000 in
set_option maxRecDepth 100000 in
theorem k_wedge (l : Launch) (u v : Nat → Int) (f : Nat → Int64) : xM l yX7_wedge cX7_wedge 3 (none : Option FieldType) rX7_wedge [.ref 0, .ref 1, .ref 2] [.inl (3, .inr (.inl (fun i => zl (u i)))), .inl (3, .inr (.inl (fun i => zl (v i)))), .inl (3, .inr (.inl (f)))] (fun r G => r = none ∧ G = [.inl (3, .inr (.inl (fun i => zl (u i)))), .inl (3, .inr (.inl (fun i => zl (v i)))), .inl (3, .inr (.inl (fun i => zl (crs u v i))))]) := by
  refine xM.of (by decide) (Nat.le_of_ble_eq_true rfl) (fun X hX => ?_)
  refine hX.run (ft := []) (ct := ctX7) (oc := []) kX7_wedge_ok xnof ctX7_ok xnoc [] [] [] 100 ?_
  refine hX.callS [0, 1] [.int (Int32.ofInt 0), .ref 2] (k_wedgeCell l u v 0 (by omega)) yX7_wedgeCell_ok lkX7_7 ssX7_wedgeCell ⟨rfl, rfl, by decide, by decide⟩ (kX7_wedge_ok.at 5 rfl) rfl rfl (by decide) ⟨rfl, rfl, trivial⟩ rfl (fun _ _ q => by rw [q.2]) (fun r9 G1 q => ?_)
  obtain ⟨rfl, rfl⟩ := q
  refine hX.run (ft := []) (ct := ctX7) (oc := []) kX7_wedge_ok xnof ctX7_ok xnoc [] [] [] 100 ?_
  refine hX.callS [0, 1] [.int (Int32.ofInt 1), .ref 2] (k_wedgeCell l u v 1 (by omega)) yX7_wedgeCell_ok lkX7_7 ssX7_wedgeCell ⟨rfl, rfl, by decide, by decide⟩ (kX7_wedge_ok.at 14 rfl) rfl rfl (by decide) ⟨rfl, rfl, trivial⟩ rfl (fun _ _ q => by rw [q.2]) (fun r9 G1 q => ?_)
  obtain ⟨rfl, rfl⟩ := q
  refine hX.run (ft := []) (ct := ctX7) (oc := []) kX7_wedge_ok xnof ctX7_ok xnoc [] [] [] 100 ?_
  refine hX.callS [0, 1] [.int (Int32.ofInt 2), .ref 2] (k_wedgeCell l u v 2 (by omega)) yX7_wedgeCell_ok lkX7_7 ssX7_wedgeCell ⟨rfl, rfl, by decide, by decide⟩ (kX7_wedge_ok.at 23 rfl) rfl rfl (by decide) ⟨rfl, rfl, trivial⟩ rfl (fun _ _ q => by rw [q.2]) (fun r9 G1 q => ?_)
  obtain ⟨rfl, rfl⟩ := q
  refine hX.run (ft := []) (ct := ctX7) (oc := []) kX7_wedge_ok xnof ctX7_ok xnoc [27] [] [] 100 ?_
  refine hX.alike (G2 := [.inl (3, .inr (.inl (fun i => zl (u i)))), .inl (3, .inr (.inl (fun i => zl (v i)))), .inl (3, .inr (.inl (fun i => zl (crs u v i))))]) ?_ ⟨xsame_rf _, xsame_rf _, ⟨rfl, fun i hi => ?_⟩, trivial⟩
  · refine hX.run (ft := []) (ct := ctX7) (oc := []) kX7_wedge_ok xnof ctX7_ok xnoc [] [] [] 100 ?_
    exact ⟨rfl, rfl⟩
  · unfold vp_updL
    rcases (show i = 0 ∨ i = 1 ∨ i = 2 by omega) with rfl | rfl | rfl <;> rfl
def conv (c p : Nat → Int) : Int := c 0 * p 0 * p 0 + c 1 * p 0 * p 1 + c 2 * p 1 * p 1 + c 3 * p 0 * p 2 + c 4 * p 1 * p 2 + c 5 * p 2 * p 2
set_option maxHeartbeats 4000000 in
set_option maxRecDepth 100000 in
theorem k_conicAt (l : Launch) (c p : Nat → Int) : xM l yX7_conicAt cX7_conicAt 2 (some .long) rX7_conicAt [.ref 0, .ref 1] [.inl (6, .inr (.inl (fun i => zl (c i)))), .inl (3, .inr (.inl (fun i => zl (p i))))] (fun r G => r = some (.long (zl (conv c p))) ∧ G = [.inl (6, .inr (.inl (fun i => zl (c i)))), .inl (3, .inr (.inl (fun i => zl (p i))))]) := by
  refine xM.of (by decide) (Nat.le_of_ble_eq_true rfl) (fun X hX => ?_)
  refine hX.run (ft := []) (ct := ctX7) (oc := []) kX7_conicAt_ok xnof ctX7_ok xnoc [] [] [] 100 ?_
  refine ⟨?_, rfl⟩
  simp only [zl_mul, zl_add]
  rfl
set_option maxHeartbeats 4000000 in
set_option maxRecDepth 100000 in
theorem k_evenTable (l : Launch) (c : Nat → Int) (f : Nat → Int64) : xM l yX7_evenTable cX7_evenTable 2 (none : Option FieldType) rX7_evenTable [.ref 0, .ref 1] [.inl (6, .inr (.inl (fun i => zl (c i)))), .inl (9, .inr (.inl (f)))] (fun r G => r = none ∧ G = [.inl (6, .inr (.inl (fun i => zl (c i)))), .inl (9, .inr (.inl (fun i => zl (ev6 c i))))]) := by
  refine xM.of (by decide) (Nat.le_of_ble_eq_true rfl) (fun X hX => ?_)
  refine hX.run (ft := []) (ct := ctX7) (oc := []) kX7_evenTable_ok xnof ctX7_ok xnoc [] [] [] 100 ?_
  refine hX.callS [1] [] (k_putRow l _ 0 (by omega) _ _ _) yX9_putRow_ok lkX7_15 ssX9_putRow ⟨rfl, rfl, by decide, by decide⟩ (kX7_evenTable_ok.at 15 rfl) rfl rfl (by decide) ⟨rfl, trivial⟩ rfl (fun _ _ q => by rw [q.2]; rfl) (fun r9 G1 q => ?_)
  obtain ⟨rfl, rfl⟩ := q
  refine hX.run (ft := []) (ct := ctX7) (oc := []) kX7_evenTable_ok xnof ctX7_ok xnoc [] [] [] 100 ?_
  refine hX.callS [1] [] (k_putRow l _ 1 (by omega) _ _ _) yX9_putRow_ok lkX7_15 ssX9_putRow ⟨rfl, rfl, by decide, by decide⟩ (kX7_evenTable_ok.at 33 rfl) rfl rfl (by decide) ⟨rfl, trivial⟩ rfl (fun _ _ q => by rw [q.2]; rfl) (fun r9 G1 q => ?_)
  obtain ⟨rfl, rfl⟩ := q
  refine hX.run (ft := []) (ct := ctX7) (oc := []) kX7_evenTable_ok xnof ctX7_ok xnoc [] [] [] 100 ?_
  refine hX.callS [1] [] (k_putRow l _ 2 (by omega) _ _ _) yX9_putRow_ok lkX7_15 ssX9_putRow ⟨rfl, rfl, by decide, by decide⟩ (kX7_evenTable_ok.at 51 rfl) rfl rfl (by decide) ⟨rfl, trivial⟩ rfl (fun _ _ q => by rw [q.2]; rfl) (fun r9 G1 q => ?_)
  obtain ⟨rfl, rfl⟩ := q
  refine hX.alike (G2 := [.inl (6, .inr (.inl (fun i => zl (c i)))), .inl (9, .inr (.inl (fun i => zl (ev6 c i))))]) ?_ ⟨xsame_rf _, ⟨rfl, fun i hi => ?_⟩, trivial⟩
  · refine hX.run (ft := []) (ct := ctX7) (oc := []) kX7_evenTable_ok xnof ctX7_ok xnoc [] [] [] 100 ?_
    exact ⟨rfl, rfl⟩
  · have e2 : (2 : Int64) = zl 2 := rfl
    unfold pr3
    simp only [e2, zl_mul]
    rcases (show i = 0 ∨ i = 1 ∨ i = 2 ∨ i = 3 ∨ i = 4 ∨ i = 5 ∨ i = 6 ∨ i = 7 ∨ i = 8 by omega) with rfl | rfl | rfl | rfl | rfl | rfl | rfl | rfl | rfl
    · exact congrArg zl (by simp [ev6]; try omega)
    · exact congrArg zl (by simp [ev6])
    · exact congrArg zl (by simp [ev6])
    · exact congrArg zl (by simp [ev6])
    · exact congrArg zl (by simp [ev6]; try omega)
    · exact congrArg zl (by simp [ev6])
    · exact congrArg zl (by simp [ev6])
    · exact congrArg zl (by simp [ev6])
    · exact congrArg zl (by simp [ev6]; try omega)

