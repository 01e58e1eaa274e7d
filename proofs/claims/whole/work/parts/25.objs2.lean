theorem RV.more {c a b : Nat} {V : SV} {gv : Nat → Int32} (h : RV c a V gv) (hab : a ≤ b) : RV c b V gv := ⟨h.1, fun k hk => ⟨(h.2 k hk).1, Nat.lt_of_lt_of_le (h.2 k hk).2 hab⟩⟩
theorem addO_le (S : SO) (s n : Nat) (z : Nat → Int) : S.1 ≤ (addO S s n z).2.1 := by
  unfold addO
  split
  · split
    · exact Nat.le_refl _
    · split
      · exact Nat.le_refl _
      · exact Nat.le_succ _
  · exact Nat.le_refl _
theorem sp3_le (S : SO) (s : Nat) (a b c : Int) : S.1 ≤ (sp3 S s a b c).2.1 := by
  unfold sp3
  split
  · split
    · exact Nat.le_refl _
    · exact addO_le S s 3 _
  · exact Nat.le_refl _
theorem sp6_le (S : SO) (a b c d e f : Int) : S.1 ≤ (sp6 S a b c d e f).2.1 := by
  unfold sp6
  split
  · split
    · exact Nat.le_refl _
    · exact addO_le S 2 6 _
  · exact Nat.le_refl _
/-- an answer, and new objects -/
def withO (q : Int × SO) (S : SS) : Int × SS := (q.1, (q.2, S.2))
def sp_point (S : SS) (x y w : Int) : Int × SS := withO (sp3 S.1 0 x y w) S
def sp_line (S : SS) (x y w : Int) : Int × SS := withO (sp3 S.1 1 x y w) S
def sp_conic (S : SS) (a b c d e f : Int) : Int × SS := withO (sp6 S.1 a b c d e f) S
def sp_number (S : SS) (k i : Int) : Int := if 0 ≤ k ∧ k < S.1.1 then (if i = 6 then (S.1.2.1 k.toNat : Int) else if 0 ≤ i ∧ i < wid (S.1.2.1 k.toNat) then S.1.2.2 k.toNat i.toNat + 1000 else -2) else -1
set_option maxHeartbeats 4000000 in
set_option maxRecDepth 100000 in
theorem r_point (l : Launch) (S : SS) (G0 : List xE) (hG : RInv S G0) (x y w : Int32) : xM l yX11_point cX11_point 4 (some .int) rX11_point [.ref 0, .int x, .int y, .int w] G0 (fun r G => r = some (.int (zi (sp_point S x.toInt y.toInt w.toInt).1)) ∧ RInv (sp_point S x.toInt y.toInt w.toInt).2 G) := by
  obtain ⟨pp, ab, be, so, ro, tb, gv, sd, gr, row, table, one, two, rfl, h1, h2, h3, h4, h5, h6⟩ := hG
  refine xM.of (by decide) (Nat.le_of_ble_eq_true rfl) (fun X hX => ?_)
  refine hX.run (oc := []) kX11_point_ok ftX11_ok ctX11_ok xnoc [] [] [] 20 ?_
  refine hX.callV0 (c_three l _ _ _ _ pp ab be so ro tb gv sd gr row table one two S.1 0 (by omega) h1 x y w) yX11_three_ok lkX11_70 ivX11_three slX11_three ⟨rfl, rfl, by decide, by decide⟩ (kX11_point_ok.at 5 rfl) rfl rfl (by decide) rfl rfl rfl (fun _ _ q => by obtain ⟨_, _, _, -, -, rfl⟩ := q; rfl) (fun r9 G1 q => ?_)
  obtain ⟨so2, ro2, row2, rfl, q2, rfl⟩ := q
  refine hX.run (oc := []) kX11_point_ok ftX11_ok ctX11_ok xnoc [] [] [] 20 ?_
  exact ⟨rfl, pp, ab, be, so2, ro2, tb, gv, sd, gr, row2, table, one, two, rfl, q2, h2, h3.more (sp3_le _ _ _ _ _), h4, h5, h6⟩
set_option maxHeartbeats 4000000 in
set_option maxRecDepth 100000 in
theorem r_line (l : Launch) (S : SS) (G0 : List xE) (hG : RInv S G0) (x y w : Int32) : xM l yX11_line cX11_line 4 (some .int) rX11_line [.ref 0, .int x, .int y, .int w] G0 (fun r G => r = some (.int (zi (sp_line S x.toInt y.toInt w.toInt).1)) ∧ RInv (sp_line S x.toInt y.toInt w.toInt).2 G) := by
  obtain ⟨pp, ab, be, so, ro, tb, gv, sd, gr, row, table, one, two, rfl, h1, h2, h3, h4, h5, h6⟩ := hG
  refine xM.of (by decide) (Nat.le_of_ble_eq_true rfl) (fun X hX => ?_)
  refine hX.run (oc := []) kX11_line_ok ftX11_ok ctX11_ok xnoc [] [] [] 20 ?_
  refine hX.callV0 (c_three l _ _ _ _ pp ab be so ro tb gv sd gr row table one two S.1 1 (by omega) h1 x y w) yX11_three_ok lkX11_70 ivX11_three slX11_three ⟨rfl, rfl, by decide, by decide⟩ (kX11_line_ok.at 5 rfl) rfl rfl (by decide) rfl rfl rfl (fun _ _ q => by obtain ⟨_, _, _, -, -, rfl⟩ := q; rfl) (fun r9 G1 q => ?_)
  obtain ⟨so2, ro2, row2, rfl, q2, rfl⟩ := q
  refine hX.run (oc := []) kX11_line_ok ftX11_ok ctX11_ok xnoc [] [] [] 20 ?_
  exact ⟨rfl, pp, ab, be, so2, ro2, tb, gv, sd, gr, row2, table, one, two, rfl, q2, h2, h3.more (sp3_le _ _ _ _ _), h4, h5, h6⟩
set_option maxHeartbeats 4000000 in
set_option maxRecDepth 100000 in
theorem r_conic (l : Launch) (S : SS) (G0 : List xE) (hG : RInv S G0) (a b c d e f : Int32) : xM l yX11_conic cX11_conic 7 (some .int) rX11_conic [.ref 0, .int a, .int b, .int c, .int d, .int e, .int f] G0 (fun r G => r = some (.int (zi (sp_conic S a.toInt b.toInt c.toInt d.toInt e.toInt f.toInt).1)) ∧ RInv (sp_conic S a.toInt b.toInt c.toInt d.toInt e.toInt f.toInt).2 G) := by
  obtain ⟨pp, ab, be, so, ro, tb, gv, sd, gr, row, table, one, two, rfl, hro, hrt, hrv, hrs, hrg, hr1⟩ := hG
  refine xM.of (by decide) (Nat.le_of_ble_eq_true rfl) (fun X hX => ?_)
  have hoc := xoc1 (oIn_ok hX (by decide)) xnoc
  have fin : ∀ {v : Int32} {G : List xE}, (∃ so' ro' row', some (Value.int v) = some (.int (zi (sp6 S.1 a.toInt b.toInt c.toInt d.toInt e.toInt f.toInt).1)) ∧ RO (sp6 S.1 a.toInt b.toInt c.toInt d.toInt e.toInt f.toInt).2 so' ro' ∧ G = GR (nI (sp6 S.1 a.toInt b.toInt c.toInt d.toInt e.toInt f.toInt).2.1) (nI S.2.1.1) (nI S.2.2.1.1) (nI S.2.2.2.1.1) (nI S.2.2.2.2.1) pp ab be so' ro' tb gv sd gr row' table one two) → some (Value.int v) = some (.int (zi (sp_conic S a.toInt b.toInt c.toInt d.toInt e.toInt f.toInt).1)) ∧ RInv (sp_conic S a.toInt b.toInt c.toInt d.toInt e.toInt f.toInt).2 G := by
    rintro v G ⟨so2, ro2, row2, e1, q2, rfl⟩
    exact ⟨e1, pp, ab, be, so2, ro2, tb, gv, sd, gr, row2, table, one, two, rfl, q2, hrt, hrv.more (sp6_le _ _ _ _ _ _ _), hrs, hrg, hr1⟩
  have out : ¬ ((-500 ≤ a.toInt ∧ a.toInt ≤ 500) ∧ (-500 ≤ b.toInt ∧ b.toInt ≤ 500) ∧ (-500 ≤ c.toInt ∧ c.toInt ≤ 500) ∧ (-500 ≤ d.toInt ∧ d.toInt ≤ 500) ∧ (-500 ≤ e.toInt ∧ e.toInt ≤ 500) ∧ (-500 ≤ f.toInt ∧ f.toInt ≤ 500)) → ∃ so' ro' row', some (Value.int (Int8.ofInt (-2)).toInt32) = some (.int (zi (sp6 S.1 a.toInt b.toInt c.toInt d.toInt e.toInt f.toInt).1)) ∧ RO (sp6 S.1 a.toInt b.toInt c.toInt d.toInt e.toInt f.toInt).2 so' ro' ∧ (GR (nI S.1.1) (nI S.2.1.1) (nI S.2.2.1.1) (nI S.2.2.2.1.1) (nI S.2.2.2.2.1) pp ab be so ro tb gv sd gr row table one two) = GR (nI (sp6 S.1 a.toInt b.toInt c.toInt d.toInt e.toInt f.toInt).2.1) (nI S.2.1.1) (nI S.2.2.1.1) (nI S.2.2.2.1.1) (nI S.2.2.2.2.1) pp ab be so' ro' tb gv sd gr row' table one two := by
    intro h
    have ee : sp6 S.1 a.toInt b.toInt c.toInt d.toInt e.toInt f.toInt = (-2, S.1) := by unfold sp6; rw [if_neg h]
    rw [ee]
    exact ⟨so, ro, row, rfl, hro, rfl⟩
  have put : ((-500 ≤ a.toInt ∧ a.toInt ≤ 500) ∧ (-500 ≤ b.toInt ∧ b.toInt ≤ 500) ∧ (-500 ≤ c.toInt ∧ c.toInt ≤ 500) ∧ (-500 ≤ d.toInt ∧ d.toInt ≤ 500) ∧ (-500 ≤ e.toInt ∧ e.toInt ≤ 500) ∧ (-500 ≤ f.toInt ∧ f.toInt ≤ 500)) → ¬ (a.toInt = 0 ∧ b.toInt = 0 ∧ c.toInt = 0 ∧ d.toInt = 0 ∧ e.toInt = 0 ∧ f.toInt = 0) → X 120 [some (.ref 0), some (.int a), some (.int b), some (.int c), some (.int d), some (.int e), some (.int f)] [] (GR (nI S.1.1) (nI S.2.1.1) (nI S.2.2.1.1) (nI S.2.2.2.1.1) (nI S.2.2.2.2.1) pp ab be so ro tb gv sd gr row table one two) := by
    intro hin hne
    have ez : ∀ i, i < 6 → (fun i => if i = 0 then a.toInt else if i = 1 then b.toInt else if i = 2 then c.toInt else if i = 3 then d.toInt else if i = 4 then e.toInt else if i = 5 then f.toInt else (row i).toInt) i = vec6 a.toInt b.toInt c.toInt d.toInt e.toInt f.toInt i := by
      intro i hi
      rcases (show i = 0 ∨ i = 1 ∨ i = 2 ∨ i = 3 ∨ i = 4 ∨ i = 5 by omega) with rfl | rfl | rfl | rfl | rfl | rfl <;> rfl
    have hc := c_object l (nI S.2.1.1) (nI S.2.2.1.1) (nI S.2.2.2.1.1) (nI S.2.2.2.2.1) pp ab be so ro tb gv sd gr table one two S.1 2 (fun i => if i = 0 then a.toInt else if i = 1 then b.toInt else if i = 2 then c.toInt else if i = 3 then d.toInt else if i = 4 then e.toInt else if i = 5 then f.toInt else (row i).toInt) (by omega) hro (fun i hi => by
      have hi : i < 6 := hi
      rcases (show i = 0 ∨ i = 1 ∨ i = 2 ∨ i = 3 ∨ i = 4 ∨ i = 5 by omega) with rfl | rfl | rfl | rfl | rfl | rfl <;> exact i32_jr _) (by
      intro h0
      exact hne ⟨gN_zero h0 0 (by decide), gN_zero h0 1 (by decide), gN_zero h0 2 (by decide), gN_zero h0 3 (by decide), gN_zero h0 4 (by decide), gN_zero h0 5 (by decide)⟩)
    rw [show wid 2 = 6 from rfl, addO_congr ez] at hc
    have ee : sp6 S.1 a.toInt b.toInt c.toInt d.toInt e.toInt f.toInt = addO S.1 2 6 (vec6 a.toInt b.toInt c.toInt d.toInt e.toInt f.toInt) := by unfold sp6; rw [if_pos hin, if_neg hne]
    refine hX.run (oc := [(125, oIn)]) kX11_conic_ok ftX11_ok ctX11_ok hoc [] [] [] 60 ?_
    refine hX.alike (G2 := GR (nI S.1.1) (nI S.2.1.1) (nI S.2.2.1.1) (nI S.2.2.2.1.1) (nI S.2.2.2.2.1) pp ab be so ro tb gv sd gr (fun i => zl ((fun i => if i = 0 then a.toInt else if i = 1 then b.toInt else if i = 2 then c.toInt else if i = 3 then d.toInt else if i = 4 then e.toInt else if i = 5 then f.toInt else (row i).toInt) i)) table one two) ?_ ⟨xsame_rf _, xsame_rf _, xsame_rf _, xsame_rf _, xsame_rf _, xsame_rf _, xsame_rf _, ⟨rfl, fun i hi => ?_⟩, xsame_rf _, xsame_rf _, xsame_rf _, trivial⟩
    · refine hX.callV0 hc yX11_object_ok lkX11_66 ivX11_object slX11_object ⟨rfl, rfl, by decide, by decide⟩ (kX11_conic_ok.at 173 rfl) rfl rfl (by decide) rfl rfl rfl (fun _ _ q => by obtain ⟨_, _, _, -, -, rfl⟩ := q; rfl) (fun r9 G1 q => ?_)
      obtain ⟨so2, ro2, row2, rfl, q2, rfl⟩ := q
      refine hX.run (oc := [(125, oIn)]) kX11_conic_ok ftX11_ok ctX11_ok hoc [] [] [] 60 ?_
      refine fin ?_
      rw [ee]
      exact ⟨so2, ro2, row2, rfl, q2, rfl⟩
    · unfold vp_updL
      dsimp only
      rcases (show i = 0 ∨ i = 1 ∨ i = 2 ∨ i = 3 ∨ i = 4 ∨ i = 5 by omega) with rfl | rfl | rfl | rfl | rfl | rfl <;> rfl
  refine hX.run (oc := [(125, oIn)]) kX11_conic_ok ftX11_ok ctX11_ok hoc [120] [11, 25, 39, 54, 69, 84] [] 90 ?_
  refine ⟨fun h0 => ?_, fun h0 => fin (out (fun q => h0 (in_5.mpr q.1)))⟩
  refine ⟨fun h1 => ?_, fun h1 => fin (out (fun q => h1 (in_5.mpr q.2.1)))⟩
  refine ⟨fun h2 => ?_, fun h2 => fin (out (fun q => h2 (in_5.mpr q.2.2.1)))⟩
  refine ⟨fun h3 => ?_, fun h3 => fin (out (fun q => h3 (in_5.mpr q.2.2.2.1)))⟩
  refine ⟨fun h4 => ?_, fun h4 => fin (out (fun q => h4 (in_5.mpr q.2.2.2.2.1)))⟩
  refine ⟨fun h5 => ?_, fun h5 => fin (out (fun q => h5 (in_5.mpr q.2.2.2.2.2)))⟩
  have hin := And.intro (in_5.mp h0) (And.intro (in_5.mp h1) (And.intro (in_5.mp h2) (And.intro (in_5.mp h3) (And.intro (in_5.mp h4) (in_5.mp h5)))))
  refine ⟨fun g0 => ?_, fun g0 => put hin (fun q => g0 (i32_0.mpr q.1))⟩
  refine ⟨fun g1 => ?_, fun g1 => put hin (fun q => g1 (i32_0.mpr q.2.1))⟩
  refine ⟨fun g2 => ?_, fun g2 => put hin (fun q => g2 (i32_0.mpr q.2.2.1))⟩
  refine ⟨fun g3 => ?_, fun g3 => put hin (fun q => g3 (i32_0.mpr q.2.2.2.1))⟩
  refine ⟨fun g4 => ?_, fun g4 => put hin (fun q => g4 (i32_0.mpr q.2.2.2.2.1))⟩
  refine ⟨fun g5 => ?_, fun g5 => put hin (fun q => g5 (i32_0.mpr q.2.2.2.2.2))⟩
  have ee : sp6 S.1 a.toInt b.toInt c.toInt d.toInt e.toInt f.toInt = (-3, S.1) := by unfold sp6; rw [if_pos hin, if_pos ⟨i32_0.mp g0, i32_0.mp g1, i32_0.mp g2, i32_0.mp g3, i32_0.mp g4, i32_0.mp g5⟩]
  refine fin ?_
  rw [ee]
  exact ⟨so, ro, row, rfl, hro, rfl⟩
set_option maxHeartbeats 4000000 in
set_option maxRecDepth 100000 in
theorem r_number (l : Launch) (S : SS) (G0 : List xE) (hG : RInv S G0) (k i : Int32) : xM l yX11_number cX11_number 3 (some .int) rX11_number [.ref 0, .int k, .int i] G0 (fun r G => r = some (.int (zi (sp_number S k.toInt i.toInt))) ∧ RInv S G) := by
  have hG' := hG
  obtain ⟨pp, ab, be, so, ro, tb, gv, sd, gr, row, table, one, two, rfl, hro, hrt, hrv, hrs, hrg, hr1⟩ := hG
  obtain ⟨hN, hso, hrr⟩ := hro
  refine xM.of (by decide) (Nat.le_of_ble_eq_true rfl) (fun X hX => ?_)
  have hoc := xoc1 (oIn_ok hX (by decide)) xnoc
  refine hX.run (oc := [(125, oIn)]) kX11_number_ok ftX11_ok ctX11_ok hoc [14] [] [] 60 ?_
  refine ⟨fun h => ?_, fun h0 => ?_⟩
  · have e : sp_number S k.toInt i.toInt = -1 := by
      unfold sp_number
      rw [if_neg]
      rw [Int32.lt_iff_toInt_lt] at h
      have h2 : k.toInt < 0 := h
      omega
    rw [e]
    exact ⟨rfl, hG'⟩
  refine ⟨fun h => ?_, fun h => ?_⟩
  rotate_left
  · have e : sp_number S k.toInt i.toInt = -1 := by
      unfold sp_number
      rw [if_neg]
      intro q
      apply h
      rw [Int32.lt_iff_toInt_lt, nI_toInt (by omega)]
      omega
    rw [e]
    exact ⟨rfl, hG'⟩
  have hk : ∃ j, j < S.1.1 ∧ k = nI j := by
    obtain ⟨j, h1, rfl⟩ := nI_of h0
    refine ⟨j, ?_, rfl⟩
    exact (nI_ltI (by omega) (by omega)).mp h
  obtain ⟨j, hj, rfl⟩ := hk
  have ej : (nI j).toInt = (j : Int) := nI_toInt (by omega)
  obtain ⟨s1, s2⟩ := hso j hj
  have hw := wid_le (S.1.2.1 j)
  have esp : ∀ t : Int, (if i.toInt = 6 then (S.1.2.1 j : Int) else if 0 ≤ i.toInt ∧ i.toInt < wid (S.1.2.1 j) then S.1.2.2 j i.toInt.toNat + 1000 else -2) = t → sp_number S (nI j).toInt i.toInt = t := by
    intro t ht
    unfold sp_number
    rw [ej, if_pos ⟨by omega, by omega⟩]
    exact ht
  refine hX.run (oc := [(125, oIn)]) kX11_number_ok ftX11_ok ctX11_ok hoc [] [52] [25, 35, 70] 60 ?_
  refine ⟨fun h6 => ?_, fun h6 => ?_⟩
  · refine ⟨j, rfl, by omega, by omega, ?_⟩
    have h7 : i.toInt = 6 := by rw [h6]; rfl
    rw [esp _ (if_pos h7)]
    refine ⟨?_, hG'⟩
    rw [s1, zi_nI]
  have h7 : ¬ i.toInt = 6 := by
    intro q
    apply h6
    apply Int32.toInt_inj.mp
    rw [q]; rfl
  refine ⟨j, rfl, by omega, by omega, ?_⟩
  have tail : ∀ c : Int, c + 1 = wid (S.1.2.1 j) → (((0 : Int64) ≤ i.toInt64 ∧ i.toInt64 ≤ zl c) → ∃ q : Nat, ixR (nI j) i = nI q ∧ q < 360 ∧ q < 2147483648 ∧ (some (Value.int (ro q + (Int16.ofInt 1000).toInt32)) = some (Value.int (zi (sp_number S (nI j).toInt i.toInt))))) ∧ (¬ ((0 : Int64) ≤ i.toInt64 ∧ i.toInt64 ≤ zl c) → sp_number S (nI j).toInt i.toInt = -2) := by
    intro c hc
    have e0 : (0 : Int64) = zl 0 := rfl
    rw [e0, i64, zl_le ⟨by omega, by omega⟩ (i32_jr i), zl_le (i32_jr i) ⟨by omega, by omega⟩]
    refine ⟨fun q => ?_, fun q => ?_⟩
    · have hi : i = nI i.toInt.toNat := by
        apply Int32.toInt_inj.mp
        rw [nI_toInt (by omega)]
        omega
      obtain ⟨r1, r2⟩ := hrr j i.toInt.toNat hj (by omega)
      refine ⟨6 * j + i.toInt.toNat, ?_, by omega, by omega, ?_⟩
      · rw [← ixR_nI, ← hi]
      · rw [esp _ ((if_neg h7).trans (if_pos ⟨by omega, by omega⟩)), r1]
        have e1 : (Int16.ofInt 1000).toInt32 = zi 1000 := rfl
        rw [e1]
        exact congrArg (fun v => some (Value.int v)) (Int32.ofInt_add _ _).symm
    · rw [esp _ ((if_neg h7).trans (if_neg (by omega)))]
  refine ⟨fun h2 => ?_, fun h2 => ?_⟩
  · have e2 : wid (S.1.2.1 j) = 6 := by
      rw [s1] at h2
      have h3 : nI (S.1.2.1 j) = nI 2 := h2
      rw [nI_eq (by omega) (by omega)] at h3
      rw [h3]; rfl
    obtain ⟨t1, t2⟩ := tail 5 (by omega)
    refine ⟨fun q => ?_, fun q => ?_⟩
    · obtain ⟨q9, a1, a2, a3, a4⟩ := t1 q
      exact ⟨q9, a1, a2, a3, a4, hG'⟩
    · rw [t2 q]; exact ⟨rfl, hG'⟩
  · have e2 : wid (S.1.2.1 j) = 3 := by
      unfold wid
      rw [if_neg]
      intro q
      apply h2
      rw [s1, q]; rfl
    obtain ⟨t1, t2⟩ := tail 2 (by omega)
    refine ⟨fun q => ?_, fun q => ?_⟩
    · obtain ⟨q9, a1, a2, a3, a4⟩ := t1 q
      exact ⟨q9, a1, a2, a3, a4, hG'⟩
    · rw [t2 q]; exact ⟨rfl, hG'⟩
