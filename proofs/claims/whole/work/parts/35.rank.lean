/-- all stays -/
abbrev all9 (z : Nat → Int) : Prop := z 0 = z 4 ∧ z 4 = z 8 ∧ z 1 = 0 ∧ z 2 = 0 ∧ z 3 = 0 ∧ z 5 = 0 ∧ z 6 = 0 ∧ z 7 = 0
set_option maxHeartbeats 4000000 in
set_option maxRecDepth 100000 in
theorem c_isAll (l : Launch) (z : Nat → Int) (hz : ∀ i, i < 9 → jr (z i)) : xM l yX11_isAll cX11_isAll 2 (some .boolean) rX11_isAll [.ref 1, .ref 0] [.inl (9, .inr (.inl (fun i => zl (z i))))] (fun r G => ((all9 z → r = some (.int 1)) ∧ (¬ all9 z → r = some (.int 0))) ∧ G = [.inl (9, .inr (.inl (fun i => zl (z i))))]) := by
  refine xM.of (by decide) (Nat.le_of_ble_eq_true rfl) (fun X hX => ?_)
  have j0 : jr 0 := ⟨by omega, by omega⟩
  have no : ¬ all9 z → narrow .boolean (.int (Int32.ofInt 0)) = .int (Int32.ofInt 0) ∧ ((all9 z → some (Value.int (Int32.ofInt 0)) = some (.int 1)) ∧ (¬ all9 z → some (Value.int (Int32.ofInt 0)) = some (.int 0))) ∧ [.inl (9, .inr (.inl (fun i => zl (z i))))] = ([.inl (9, .inr (.inl (fun i => zl (z i))))] : List xE) := fun h => ⟨rfl, ⟨fun q => absurd q h, fun _ => rfl⟩, rfl⟩
  refine hX.run (oc := []) kX11_isAll_ok ftX11_ok ctX11_ok xnoc [] [] [] 90 ?_
  refine ⟨fun h => ?_, fun h => no (fun q => h (lgc_eq.mpr ((zl_eq (hz 0 (by omega)) (hz 4 (by omega))).mpr (q.1))))⟩
  have g0 : z 0 = z 4 := (zl_eq (hz 0 (by omega)) (hz 4 (by omega))).mp (lgc_eq.mp h)
  refine ⟨fun h => ?_, fun h => no (fun q => h (lgc_eq.mpr ((zl_eq (hz 4 (by omega)) (hz 8 (by omega))).mpr (q.2.1))))⟩
  have g1 : z 4 = z 8 := (zl_eq (hz 4 (by omega)) (hz 8 (by omega))).mp (lgc_eq.mp h)
  refine ⟨fun h => ?_, fun h => no (fun q => h (lgc_eq.mpr ((zl_eq (hz 1 (by omega)) j0).mpr (q.2.2.1))))⟩
  have g2 : z 1 = 0 := (zl_eq (hz 1 (by omega)) j0).mp (lgc_eq.mp h)
  refine ⟨fun h => ?_, fun h => no (fun q => h (lgc_eq.mpr ((zl_eq (hz 2 (by omega)) j0).mpr (q.2.2.2.1))))⟩
  have g3 : z 2 = 0 := (zl_eq (hz 2 (by omega)) j0).mp (lgc_eq.mp h)
  refine ⟨fun h => ?_, fun h => no (fun q => h (lgc_eq.mpr ((zl_eq (hz 3 (by omega)) j0).mpr (q.2.2.2.2.1))))⟩
  have g4 : z 3 = 0 := (zl_eq (hz 3 (by omega)) j0).mp (lgc_eq.mp h)
  refine ⟨fun h => ?_, fun h => no (fun q => h (lgc_eq.mpr ((zl_eq (hz 5 (by omega)) j0).mpr (q.2.2.2.2.2.1))))⟩
  have g5 : z 5 = 0 := (zl_eq (hz 5 (by omega)) j0).mp (lgc_eq.mp h)
  refine ⟨fun h => ?_, fun h => no (fun q => h (lgc_eq.mpr ((zl_eq (hz 6 (by omega)) j0).mpr (q.2.2.2.2.2.2.1))))⟩
  have g6 : z 6 = 0 := (zl_eq (hz 6 (by omega)) j0).mp (lgc_eq.mp h)
  refine ⟨fun h => ?_, fun h => no (fun q => h (lgc_eq.mpr ((zl_eq (hz 7 (by omega)) j0).mpr (q.2.2.2.2.2.2.2))))⟩
  have g7 : z 7 = 0 := (zl_eq (hz 7 (by omega)) j0).mp (lgc_eq.mp h)
  exact ⟨rfl, ⟨fun _ => rfl, fun q => absurd ⟨g0, g1, g2, g3, g4, g5, g6, g7⟩ q⟩, rfl⟩
/-- rank, and the row that shows it -/
def lss (x : Nat → Int) (z : Int) (i : Nat) : Int := x i - (if i % 4 = 0 then z else 0)
def rw3 (m : Nat → Int) (r t : Nat) : Int := m (3 * r + t)
def cr3 (m : Nat → Int) (r : Nat) : Nat → Int := crs (rw3 m r) (rw3 m ((r + 1) % 3))
def nz3 (u : Nat → Int) : Bool := decide (u 0 ≠ 0) || (decide (u 1 ≠ 0) || decide (u 2 ≠ 0))
def rkv (m : Nat → Int) : Nat × (Nat → Int) := if det9 m ≠ 0 then (3, fun _ => 0) else if nz3 (cr3 m 0) then (2, cr3 m 0) else if nz3 (cr3 m 1) then (2, cr3 m 1) else if nz3 (cr3 m 2) then (2, cr3 m 2) else if nz3 (rw3 m 0) then (1, rw3 m 0) else if nz3 (rw3 m 1) then (1, rw3 m 1) else if nz3 (rw3 m 2) then (1, rw3 m 2) else (0, fun _ => 0)
theorem nz3_f {u : Nat → Int} : nz3 u = false ↔ u 0 = 0 ∧ u 1 = 0 ∧ u 2 = 0 := by
  unfold nz3
  simp
theorem nz3_t {u : Nat → Int} (h : u 0 ≠ 0 ∨ u 1 ≠ 0 ∨ u 2 ≠ 0) : nz3 u = true := by
  unfold nz3
  simpa using h
theorem lss_bd {x : Nat → Int} {z : Int} (hx : ∀ i, i < 9 → ab (x i) 500) (hz : ab z 1500) (i : Nat) (hi : i < 9) : ab (lss x z i) 2000 := by
  unfold lss
  split
  · exact ab_le (ab_sub (hx i hi) hz) (by decide)
  · exact ab_le (ab_sub (hx i hi) (B := 0) ⟨by omega, by omega⟩) (by decide)
theorem det9_bd {m : Nat → Int} (h : ∀ i, i < 9 → ab (m i) 2000) : ab (det9 m) 48000000000 :=
  ab_le (ab_add (ab_sub (ab_mul (h 0 (by omega)) (ab_sub (ab_mul (h 4 (by omega)) (h 8 (by omega))) (ab_mul (h 5 (by omega)) (h 7 (by omega))))) (ab_mul (h 1 (by omega)) (ab_sub (ab_mul (h 3 (by omega)) (h 8 (by omega))) (ab_mul (h 5 (by omega)) (h 6 (by omega)))))) (ab_mul (h 2 (by omega)) (ab_sub (ab_mul (h 3 (by omega)) (h 7 (by omega))) (ab_mul (h 4 (by omega)) (h 6 (by omega)))))) (by decide)
theorem cr3_bd {m : Nat → Int} (h : ∀ i, i < 9 → ab (m i) 2000) (r i : Nat) (hr : r < 3) : ab (cr3 m r i) 8000000 := by
  have h1 := Nat.mod_lt (i + 1) (show 0 < 3 by omega)
  have h2 := Nat.mod_lt (i + 2) (show 0 < 3 by omega)
  have h3 := Nat.mod_lt (r + 1) (show 0 < 3 by omega)
  exact ab_le (ab_sub (ab_mul (h _ (by omega)) (h _ (by omega))) (ab_mul (h _ (by omega)) (h _ (by omega)))) (by decide)
set_option maxHeartbeats 4000000 in
set_option maxRecDepth 100000 in
theorem c_rank (l : Launch) (n nm ng ns ngr : Int32) (pp av be : Int64) (so ro tb gv sd gr : Nat → Int32) (row table two : Nat → Int64) (x : Nat → Int) (z : Int) (hx : ∀ i, i < 9 → ab (x i) 500) (hz : ab z 1500) : xM l yX11_rank cX11_rank 9 (some .int) rX11_rank [.ref 0, .ref 9, .long (zl z)] (GR n nm ng ns ngr pp av be so ro tb gv sd gr row table (fun i => zl (x i)) two) (fun r G => ∃ row', r = some (.int (nI (rkv (lss x z)).1)) ∧ ((rkv (lss x z)).1 ≠ 3 → ∀ i, i < 3 → row' i = zl ((rkv (lss x z)).2 i)) ∧ G = GR n nm ng ns ngr pp av be so ro tb gv sd gr row' table (fun i => zl (x i)) (fun i => zl (lss x z i))) := by
  refine xM.of (by decide) (Nat.le_of_ble_eq_true rfl) (fun X hX => ?_)
  have j0 : jr 0 := ⟨by omega, by omega⟩
  have m5 := lss_bd hx hz
  have jc : ∀ r, r < 3 → ∀ i, i < 3 → jr (cr3 (lss x z) r i) := fun r hr i _ => ab_jr (cr3_bd m5 r i hr) (by decide)
  have jw : ∀ r, r < 3 → ∀ i, i < 3 → jr (rw3 (lss x z) r i) := fun r hr i hi => ab_jr (m5 (3 * r + i) (by omega)) (by decide)
  have jd : jr (det9 (lss x z)) := ab_jr (det9_bd m5) (by decide)
  have ok : ∀ (t : Nat) (f : Nat → Int) (row9 : Nat → Int64), rkv (lss x z) = (t, f) → ∃ row', some (Value.int (nI t)) = some (.int (nI (rkv (lss x z)).1)) ∧ ((rkv (lss x z)).1 ≠ 3 → ∀ i, i < 3 → row' i = zl ((rkv (lss x z)).2 i)) ∧ (GR n nm ng ns ngr pp av be so ro tb gv sd gr (fun i => zl (if i < 3 then f i else (row9 i).toInt)) table (fun i => zl (x i)) (fun i => zl (lss x z i))) = GR n nm ng ns ngr pp av be so ro tb gv sd gr row' table (fun i => zl (x i)) (fun i => zl (lss x z i)) := by
    intro t f row9 h
    rw [h]
    exact ⟨_, rfl, fun _ i hi => by dsimp only; rw [if_pos hi], rfl⟩
  have w3 : det9 (lss x z) = 0 → nz3 (cr3 (lss x z) 0) = false → nz3 (cr3 (lss x z) 1) = false → nz3 (cr3 (lss x z) 2) = false → nz3 (rw3 (lss x z) 0) = false → nz3 (rw3 (lss x z) 1) = false → nz3 (rw3 (lss x z) 2) = false → ∀ row9 : Nat → Int64, X 204 [some (.ref 0), some (.ref 9), some (.long (zl z)), none, some (.int (nI 3)), none, none, none, none] [] (GR n nm ng ns ngr pp av be so ro tb gv sd gr (fun i => zl (if i < 3 then rw3 (lss x z) 2 i else (row9 i).toInt)) table (fun i => zl (x i)) (fun i => zl (lss x z i))) := by
    intro d c0 c1 c2 w0 w1 w2 row9
    have e : rkv (lss x z) = (0, fun _ => 0) := by
      unfold rkv
      rw [if_neg (fun q => q d), c0, c1, c2, w0, w1, w2]; rfl
    have e2 := nz3_f.mp w2
    refine hX.run (oc := []) kX11_rank_ok ftX11_ok ctX11_ok xnoc [] [207] [] 60 ?_
    rw [e]
    refine ⟨_, rfl, fun _ i hi => ?_, rfl⟩
    dsimp only
    rcases (show i = 0 ∨ i = 1 ∨ i = 2 by omega) with rfl | rfl | rfl
    · rw [if_pos (by omega), e2.1]
    · rw [if_pos (by omega), e2.2.1]
    · rw [if_pos (by omega), e2.2.2]
  have v2 : det9 (lss x z) = 0 → nz3 (cr3 (lss x z) 0) = false → nz3 (cr3 (lss x z) 1) = false → nz3 (cr3 (lss x z) 2) = false → nz3 (rw3 (lss x z) 0) = false → nz3 (rw3 (lss x z) 1) = false → ∀ row9 : Nat → Int64, X 204 [some (.ref 0), some (.ref 9), some (.long (zl z)), none, some (.int (nI 2)), none, none, none, none] [] (GR n nm ng ns ngr pp av be so ro tb gv sd gr row9 table (fun i => zl (x i)) (fun i => zl (lss x z i))) := by
    intro d c0 c1 c2 w0 w1 row9
    have good : nz3 (rw3 (lss x z) 2) = true → ∃ row', some (Value.int (nI 1)) = some (.int (nI (rkv (lss x z)).1)) ∧ ((rkv (lss x z)).1 ≠ 3 → ∀ i, i < 3 → row' i = zl ((rkv (lss x z)).2 i)) ∧ (GR n nm ng ns ngr pp av be so ro tb gv sd gr (fun i => zl (if i < 3 then rw3 (lss x z) 2 i else (row9 i).toInt)) table (fun i => zl (x i)) (fun i => zl (lss x z i))) = GR n nm ng ns ngr pp av be so ro tb gv sd gr row' table (fun i => zl (x i)) (fun i => zl (lss x z i)) := fun hn => ok 1 _ row9 (by
      unfold rkv
      rw [if_neg (fun q => q d), c0, c1, c2, w0, w1, hn]; rfl)
    have test : X 244 [some (.ref 0), some (.ref 9), some (.long (zl z)), none, some (.int (nI 2)), none, none, none, none] [] (GR n nm ng ns ngr pp av be so ro tb gv sd gr (fun i => zl (if i < 3 then rw3 (lss x z) 2 i else (row9 i).toInt)) table (fun i => zl (x i)) (fun i => zl (lss x z i))) := by
      refine hX.run (oc := []) kX11_rank_ok ftX11_ok ctX11_ok xnoc [204] [] [] 60 ?_
      refine ⟨fun h => ?_, fun h => ?_⟩
      · have z0 : rw3 (lss x z) 2 0 = 0 := (zl_eq (jw 2 (by omega) 0 (by omega)) j0).mp (lgc_eq.mp h)
        refine ⟨fun h => ?_, fun h => ?_⟩
        · have z1 : rw3 (lss x z) 2 1 = 0 := (zl_eq (jw 2 (by omega) 1 (by omega)) j0).mp (lgc_eq.mp h)
          refine ⟨fun h => ?_, fun h => ?_⟩
          · have z2 : rw3 (lss x z) 2 2 = 0 := (zl_eq (jw 2 (by omega) 2 (by omega)) j0).mp (lgc_eq.mp h)
            exact w3 d c0 c1 c2 w0 w1 (nz3_f.mpr ⟨z0, z1, z2⟩) row9
          · have z2 : ¬ rw3 (lss x z) 2 2 = 0 := fun q => h (lgc_eq.mpr ((zl_eq (jw 2 (by omega) 2 (by omega)) j0).mpr q))
            exact good (nz3_t (Or.inr (Or.inr z2)))
        · have z1 : ¬ rw3 (lss x z) 2 1 = 0 := fun q => h (lgc_eq.mpr ((zl_eq (jw 2 (by omega) 1 (by omega)) j0).mpr q))
          exact good (nz3_t (Or.inr (Or.inl z1)))
      · have z0 : ¬ rw3 (lss x z) 2 0 = 0 := fun q => h (lgc_eq.mpr ((zl_eq (jw 2 (by omega) 0 (by omega)) j0).mpr q))
        exact good (nz3_t (Or.inl z0))
    refine hX.run (oc := []) kX11_rank_ok ftX11_ok ctX11_ok xnoc [244] [207, 216] [] 200 ?_
    refine hX.alike (G2 := GR n nm ng ns ngr pp av be so ro tb gv sd gr (fun i => zl (if i < 3 then rw3 (lss x z) 2 i else (row9 i).toInt)) table (fun i => zl (x i)) (fun i => zl (lss x z i))) (hX.less test ⟨rfl, rfl, rfl, rfl, trivial⟩) ⟨xsame_rf _, xsame_rf _, xsame_rf _, xsame_rf _, xsame_rf _, xsame_rf _, xsame_rf _, ⟨rfl, fun i hi => ?_⟩, xsame_rf _, xsame_rf _, xsame_rf _, trivial⟩
    rcases (show i = 0 ∨ i = 1 ∨ i = 2 ∨ i = 3 ∨ i = 4 ∨ i = 5 by omega) with rfl | rfl | rfl | rfl | rfl | rfl
    · rfl
    · rfl
    · rfl
    · exact (zl_of _).symm
    · exact (zl_of _).symm
    · exact (zl_of _).symm
  have v1 : det9 (lss x z) = 0 → nz3 (cr3 (lss x z) 0) = false → nz3 (cr3 (lss x z) 1) = false → nz3 (cr3 (lss x z) 2) = false → nz3 (rw3 (lss x z) 0) = false → ∀ row9 : Nat → Int64, X 204 [some (.ref 0), some (.ref 9), some (.long (zl z)), none, some (.int (nI 1)), none, none, none, none] [] (GR n nm ng ns ngr pp av be so ro tb gv sd gr row9 table (fun i => zl (x i)) (fun i => zl (lss x z i))) := by
    intro d c0 c1 c2 w0 row9
    have good : nz3 (rw3 (lss x z) 1) = true → ∃ row', some (Value.int (nI 1)) = some (.int (nI (rkv (lss x z)).1)) ∧ ((rkv (lss x z)).1 ≠ 3 → ∀ i, i < 3 → row' i = zl ((rkv (lss x z)).2 i)) ∧ (GR n nm ng ns ngr pp av be so ro tb gv sd gr (fun i => zl (if i < 3 then rw3 (lss x z) 1 i else (row9 i).toInt)) table (fun i => zl (x i)) (fun i => zl (lss x z i))) = GR n nm ng ns ngr pp av be so ro tb gv sd gr row' table (fun i => zl (x i)) (fun i => zl (lss x z i)) := fun hn => ok 1 _ row9 (by
      unfold rkv
      rw [if_neg (fun q => q d), c0, c1, c2, w0, hn]; rfl)
    have test : X 244 [some (.ref 0), some (.ref 9), some (.long (zl z)), none, some (.int (nI 1)), none, none, none, none] [] (GR n nm ng ns ngr pp av be so ro tb gv sd gr (fun i => zl (if i < 3 then rw3 (lss x z) 1 i else (row9 i).toInt)) table (fun i => zl (x i)) (fun i => zl (lss x z i))) := by
      refine hX.run (oc := []) kX11_rank_ok ftX11_ok ctX11_ok xnoc [204] [] [] 60 ?_
      refine ⟨fun h => ?_, fun h => ?_⟩
      · have z0 : rw3 (lss x z) 1 0 = 0 := (zl_eq (jw 1 (by omega) 0 (by omega)) j0).mp (lgc_eq.mp h)
        refine ⟨fun h => ?_, fun h => ?_⟩
        · have z1 : rw3 (lss x z) 1 1 = 0 := (zl_eq (jw 1 (by omega) 1 (by omega)) j0).mp (lgc_eq.mp h)
          refine ⟨fun h => ?_, fun h => ?_⟩
          · have z2 : rw3 (lss x z) 1 2 = 0 := (zl_eq (jw 1 (by omega) 2 (by omega)) j0).mp (lgc_eq.mp h)
            exact v2 d c0 c1 c2 w0 (nz3_f.mpr ⟨z0, z1, z2⟩) _
          · have z2 : ¬ rw3 (lss x z) 1 2 = 0 := fun q => h (lgc_eq.mpr ((zl_eq (jw 1 (by omega) 2 (by omega)) j0).mpr q))
            exact good (nz3_t (Or.inr (Or.inr z2)))
        · have z1 : ¬ rw3 (lss x z) 1 1 = 0 := fun q => h (lgc_eq.mpr ((zl_eq (jw 1 (by omega) 1 (by omega)) j0).mpr q))
          exact good (nz3_t (Or.inr (Or.inl z1)))
      · have z0 : ¬ rw3 (lss x z) 1 0 = 0 := fun q => h (lgc_eq.mpr ((zl_eq (jw 1 (by omega) 0 (by omega)) j0).mpr q))
        exact good (nz3_t (Or.inl z0))
    refine hX.run (oc := []) kX11_rank_ok ftX11_ok ctX11_ok xnoc [244] [207, 216] [] 200 ?_
    refine hX.alike (G2 := GR n nm ng ns ngr pp av be so ro tb gv sd gr (fun i => zl (if i < 3 then rw3 (lss x z) 1 i else (row9 i).toInt)) table (fun i => zl (x i)) (fun i => zl (lss x z i))) (hX.less test ⟨rfl, rfl, rfl, rfl, trivial⟩) ⟨xsame_rf _, xsame_rf _, xsame_rf _, xsame_rf _, xsame_rf _, xsame_rf _, xsame_rf _, ⟨rfl, fun i hi => ?_⟩, xsame_rf _, xsame_rf _, xsame_rf _, trivial⟩
    rcases (show i = 0 ∨ i = 1 ∨ i = 2 ∨ i = 3 ∨ i = 4 ∨ i = 5 by omega) with rfl | rfl | rfl | rfl | rfl | rfl
    · rfl
    · rfl
    · rfl
    · exact (zl_of _).symm
    · exact (zl_of _).symm
    · exact (zl_of _).symm
  have v0 : det9 (lss x z) = 0 → nz3 (cr3 (lss x z) 0) = false → nz3 (cr3 (lss x z) 1) = false → nz3 (cr3 (lss x z) 2) = false → ∀ row9 : Nat → Int64, X 204 [some (.ref 0), some (.ref 9), some (.long (zl z)), none, some (.int (nI 0)), none, none, none, none] [] (GR n nm ng ns ngr pp av be so ro tb gv sd gr row9 table (fun i => zl (x i)) (fun i => zl (lss x z i))) := by
    intro d c0 c1 c2 row9
    have good : nz3 (rw3 (lss x z) 0) = true → ∃ row', some (Value.int (nI 1)) = some (.int (nI (rkv (lss x z)).1)) ∧ ((rkv (lss x z)).1 ≠ 3 → ∀ i, i < 3 → row' i = zl ((rkv (lss x z)).2 i)) ∧ (GR n nm ng ns ngr pp av be so ro tb gv sd gr (fun i => zl (if i < 3 then rw3 (lss x z) 0 i else (row9 i).toInt)) table (fun i => zl (x i)) (fun i => zl (lss x z i))) = GR n nm ng ns ngr pp av be so ro tb gv sd gr row' table (fun i => zl (x i)) (fun i => zl (lss x z i)) := fun hn => ok 1 _ row9 (by
      unfold rkv
      rw [if_neg (fun q => q d), c0, c1, c2, hn]; rfl)
    have test : X 244 [some (.ref 0), some (.ref 9), some (.long (zl z)), none, some (.int (nI 0)), none, none, none, none] [] (GR n nm ng ns ngr pp av be so ro tb gv sd gr (fun i => zl (if i < 3 then rw3 (lss x z) 0 i else (row9 i).toInt)) table (fun i => zl (x i)) (fun i => zl (lss x z i))) := by
      refine hX.run (oc := []) kX11_rank_ok ftX11_ok ctX11_ok xnoc [204] [] [] 60 ?_
      refine ⟨fun h => ?_, fun h => ?_⟩
      · have z0 : rw3 (lss x z) 0 0 = 0 := (zl_eq (jw 0 (by omega) 0 (by omega)) j0).mp (lgc_eq.mp h)
        refine ⟨fun h => ?_, fun h => ?_⟩
        · have z1 : rw3 (lss x z) 0 1 = 0 := (zl_eq (jw 0 (by omega) 1 (by omega)) j0).mp (lgc_eq.mp h)
          refine ⟨fun h => ?_, fun h => ?_⟩
          · have z2 : rw3 (lss x z) 0 2 = 0 := (zl_eq (jw 0 (by omega) 2 (by omega)) j0).mp (lgc_eq.mp h)
            exact v1 d c0 c1 c2 (nz3_f.mpr ⟨z0, z1, z2⟩) _
          · have z2 : ¬ rw3 (lss x z) 0 2 = 0 := fun q => h (lgc_eq.mpr ((zl_eq (jw 0 (by omega) 2 (by omega)) j0).mpr q))
            exact good (nz3_t (Or.inr (Or.inr z2)))
        · have z1 : ¬ rw3 (lss x z) 0 1 = 0 := fun q => h (lgc_eq.mpr ((zl_eq (jw 0 (by omega) 1 (by omega)) j0).mpr q))
          exact good (nz3_t (Or.inr (Or.inl z1)))
      · have z0 : ¬ rw3 (lss x z) 0 0 = 0 := fun q => h (lgc_eq.mpr ((zl_eq (jw 0 (by omega) 0 (by omega)) j0).mpr q))
        exact good (nz3_t (Or.inl z0))
    refine hX.run (oc := []) kX11_rank_ok ftX11_ok ctX11_ok xnoc [244] [207, 216] [] 200 ?_
    refine hX.alike (G2 := GR n nm ng ns ngr pp av be so ro tb gv sd gr (fun i => zl (if i < 3 then rw3 (lss x z) 0 i else (row9 i).toInt)) table (fun i => zl (x i)) (fun i => zl (lss x z i))) (hX.less test ⟨rfl, rfl, rfl, rfl, trivial⟩) ⟨xsame_rf _, xsame_rf _, xsame_rf _, xsame_rf _, xsame_rf _, xsame_rf _, xsame_rf _, ⟨rfl, fun i hi => ?_⟩, xsame_rf _, xsame_rf _, xsame_rf _, trivial⟩
    rcases (show i = 0 ∨ i = 1 ∨ i = 2 ∨ i = 3 ∨ i = 4 ∨ i = 5 by omega) with rfl | rfl | rfl | rfl | rfl | rfl
    · rfl
    · rfl
    · rfl
    · exact (zl_of _).symm
    · exact (zl_of _).symm
    · exact (zl_of _).symm
  have u3 : det9 (lss x z) = 0 → nz3 (cr3 (lss x z) 0) = false → nz3 (cr3 (lss x z) 1) = false → nz3 (cr3 (lss x z) 2) = false → ∀ row9 : Nat → Int64, X 57 [some (.ref 0), some (.ref 9), some (.long (zl z)), none, some (.int (nI 3)), none, none, none, none] [] (GR n nm ng ns ngr pp av be so ro tb gv sd gr row9 table (fun i => zl (x i)) (fun i => zl (lss x z i))) := by
    intro d c0 c1 c2 row9
    refine hX.run (oc := []) kX11_rank_ok ftX11_ok ctX11_ok xnoc [204] [60] [] 60 ?_
    exact v0 d c0 c1 c2 row9
  have u2 : det9 (lss x z) = 0 → nz3 (cr3 (lss x z) 0) = false → nz3 (cr3 (lss x z) 1) = false → ∀ row9 : Nat → Int64, X 57 [some (.ref 0), some (.ref 9), some (.long (zl z)), none, some (.int (nI 2)), none, none, none, none] [] (GR n nm ng ns ngr pp av be so ro tb gv sd gr row9 table (fun i => zl (x i)) (fun i => zl (lss x z i))) := by
    intro d c0 c1 row9
    have good : nz3 (cr3 (lss x z) 2) = true → ∃ row', some (Value.int (nI 2)) = some (.int (nI (rkv (lss x z)).1)) ∧ ((rkv (lss x z)).1 ≠ 3 → ∀ i, i < 3 → row' i = zl ((rkv (lss x z)).2 i)) ∧ (GR n nm ng ns ngr pp av be so ro tb gv sd gr (fun i => zl (if i < 3 then cr3 (lss x z) 2 i else (row9 i).toInt)) table (fun i => zl (x i)) (fun i => zl (lss x z i))) = GR n nm ng ns ngr pp av be so ro tb gv sd gr row' table (fun i => zl (x i)) (fun i => zl (lss x z i)) := fun hn => ok 2 _ row9 (by
      unfold rkv
      rw [if_neg (fun q => q d), c0, c1, hn]; rfl)
    have test : X 160 [some (.ref 0), some (.ref 9), some (.long (zl z)), none, some (.int (nI 2)), none, none, none, none] [] (GR n nm ng ns ngr pp av be so ro tb gv sd gr (fun i => zl (if i < 3 then cr3 (lss x z) 2 i else (row9 i).toInt)) table (fun i => zl (x i)) (fun i => zl (lss x z i))) := by
      refine hX.run (oc := []) kX11_rank_ok ftX11_ok ctX11_ok xnoc [57] [] [] 60 ?_
      refine ⟨fun h => ?_, fun h => ?_⟩
      · have z0 : cr3 (lss x z) 2 0 = 0 := (zl_eq (jc 2 (by omega) 0 (by omega)) j0).mp (lgc_eq.mp h)
        refine ⟨fun h => ?_, fun h => ?_⟩
        · have z1 : cr3 (lss x z) 2 1 = 0 := (zl_eq (jc 2 (by omega) 1 (by omega)) j0).mp (lgc_eq.mp h)
          refine ⟨fun h => ?_, fun h => ?_⟩
          · have z2 : cr3 (lss x z) 2 2 = 0 := (zl_eq (jc 2 (by omega) 2 (by omega)) j0).mp (lgc_eq.mp h)
            exact u3 d c0 c1 (nz3_f.mpr ⟨z0, z1, z2⟩) _
          · have z2 : ¬ cr3 (lss x z) 2 2 = 0 := fun q => h (lgc_eq.mpr ((zl_eq (jc 2 (by omega) 2 (by omega)) j0).mpr q))
            exact good (nz3_t (Or.inr (Or.inr z2)))
        · have z1 : ¬ cr3 (lss x z) 2 1 = 0 := fun q => h (lgc_eq.mpr ((zl_eq (jc 2 (by omega) 1 (by omega)) j0).mpr q))
          exact good (nz3_t (Or.inr (Or.inl z1)))
      · have z0 : ¬ cr3 (lss x z) 2 0 = 0 := fun q => h (lgc_eq.mpr ((zl_eq (jc 2 (by omega) 0 (by omega)) j0).mpr q))
        exact good (nz3_t (Or.inl z0))
    refine hX.run (oc := []) kX11_rank_ok ftX11_ok ctX11_ok xnoc [160] [60, 77] [] 300 ?_
    refine hX.alike (G2 := GR n nm ng ns ngr pp av be so ro tb gv sd gr (fun i => zl (if i < 3 then cr3 (lss x z) 2 i else (row9 i).toInt)) table (fun i => zl (x i)) (fun i => zl (lss x z i))) (hX.less test ⟨rfl, rfl, rfl, rfl, trivial⟩) ⟨xsame_rf _, xsame_rf _, xsame_rf _, xsame_rf _, xsame_rf _, xsame_rf _, xsame_rf _, ⟨rfl, fun i hi => ?_⟩, xsame_rf _, xsame_rf _, xsame_rf _, trivial⟩
    rcases (show i = 0 ∨ i = 1 ∨ i = 2 ∨ i = 3 ∨ i = 4 ∨ i = 5 by omega) with rfl | rfl | rfl | rfl | rfl | rfl
    · show zl ((lss x z) 7) * zl ((lss x z) 2) - zl ((lss x z) 8) * zl ((lss x z) 1) = zl (cr3 (lss x z) 2 0)
      rw [zl_mul, zl_mul, zl_sub]
      rfl
    · show zl ((lss x z) 8) * zl ((lss x z) 0) - zl ((lss x z) 6) * zl ((lss x z) 2) = zl (cr3 (lss x z) 2 1)
      rw [zl_mul, zl_mul, zl_sub]
      rfl
    · show zl ((lss x z) 6) * zl ((lss x z) 1) - zl ((lss x z) 7) * zl ((lss x z) 0) = zl (cr3 (lss x z) 2 2)
      rw [zl_mul, zl_mul, zl_sub]
      rfl
    · exact (zl_of _).symm
    · exact (zl_of _).symm
    · exact (zl_of _).symm
  have u1 : det9 (lss x z) = 0 → nz3 (cr3 (lss x z) 0) = false → ∀ row9 : Nat → Int64, X 57 [some (.ref 0), some (.ref 9), some (.long (zl z)), none, some (.int (nI 1)), none, none, none, none] [] (GR n nm ng ns ngr pp av be so ro tb gv sd gr row9 table (fun i => zl (x i)) (fun i => zl (lss x z i))) := by
    intro d c0 row9
    have good : nz3 (cr3 (lss x z) 1) = true → ∃ row', some (Value.int (nI 2)) = some (.int (nI (rkv (lss x z)).1)) ∧ ((rkv (lss x z)).1 ≠ 3 → ∀ i, i < 3 → row' i = zl ((rkv (lss x z)).2 i)) ∧ (GR n nm ng ns ngr pp av be so ro tb gv sd gr (fun i => zl (if i < 3 then cr3 (lss x z) 1 i else (row9 i).toInt)) table (fun i => zl (x i)) (fun i => zl (lss x z i))) = GR n nm ng ns ngr pp av be so ro tb gv sd gr row' table (fun i => zl (x i)) (fun i => zl (lss x z i)) := fun hn => ok 2 _ row9 (by
      unfold rkv
      rw [if_neg (fun q => q d), c0, hn]; rfl)
    have test : X 160 [some (.ref 0), some (.ref 9), some (.long (zl z)), none, some (.int (nI 1)), none, none, none, none] [] (GR n nm ng ns ngr pp av be so ro tb gv sd gr (fun i => zl (if i < 3 then cr3 (lss x z) 1 i else (row9 i).toInt)) table (fun i => zl (x i)) (fun i => zl (lss x z i))) := by
      refine hX.run (oc := []) kX11_rank_ok ftX11_ok ctX11_ok xnoc [57] [] [] 60 ?_
      refine ⟨fun h => ?_, fun h => ?_⟩
      · have z0 : cr3 (lss x z) 1 0 = 0 := (zl_eq (jc 1 (by omega) 0 (by omega)) j0).mp (lgc_eq.mp h)
        refine ⟨fun h => ?_, fun h => ?_⟩
        · have z1 : cr3 (lss x z) 1 1 = 0 := (zl_eq (jc 1 (by omega) 1 (by omega)) j0).mp (lgc_eq.mp h)
          refine ⟨fun h => ?_, fun h => ?_⟩
          · have z2 : cr3 (lss x z) 1 2 = 0 := (zl_eq (jc 1 (by omega) 2 (by omega)) j0).mp (lgc_eq.mp h)
            exact u2 d c0 (nz3_f.mpr ⟨z0, z1, z2⟩) _
          · have z2 : ¬ cr3 (lss x z) 1 2 = 0 := fun q => h (lgc_eq.mpr ((zl_eq (jc 1 (by omega) 2 (by omega)) j0).mpr q))
            exact good (nz3_t (Or.inr (Or.inr z2)))
        · have z1 : ¬ cr3 (lss x z) 1 1 = 0 := fun q => h (lgc_eq.mpr ((zl_eq (jc 1 (by omega) 1 (by omega)) j0).mpr q))
          exact good (nz3_t (Or.inr (Or.inl z1)))
      · have z0 : ¬ cr3 (lss x z) 1 0 = 0 := fun q => h (lgc_eq.mpr ((zl_eq (jc 1 (by omega) 0 (by omega)) j0).mpr q))
        exact good (nz3_t (Or.inl z0))
    refine hX.run (oc := []) kX11_rank_ok ftX11_ok ctX11_ok xnoc [160] [60, 77] [] 300 ?_
    refine hX.alike (G2 := GR n nm ng ns ngr pp av be so ro tb gv sd gr (fun i => zl (if i < 3 then cr3 (lss x z) 1 i else (row9 i).toInt)) table (fun i => zl (x i)) (fun i => zl (lss x z i))) (hX.less test ⟨rfl, rfl, rfl, rfl, trivial⟩) ⟨xsame_rf _, xsame_rf _, xsame_rf _, xsame_rf _, xsame_rf _, xsame_rf _, xsame_rf _, ⟨rfl, fun i hi => ?_⟩, xsame_rf _, xsame_rf _, xsame_rf _, trivial⟩
    rcases (show i = 0 ∨ i = 1 ∨ i = 2 ∨ i = 3 ∨ i = 4 ∨ i = 5 by omega) with rfl | rfl | rfl | rfl | rfl | rfl
    · show zl ((lss x z) 4) * zl ((lss x z) 8) - zl ((lss x z) 5) * zl ((lss x z) 7) = zl (cr3 (lss x z) 1 0)
      rw [zl_mul, zl_mul, zl_sub]
      rfl
    · show zl ((lss x z) 5) * zl ((lss x z) 6) - zl ((lss x z) 3) * zl ((lss x z) 8) = zl (cr3 (lss x z) 1 1)
      rw [zl_mul, zl_mul, zl_sub]
      rfl
    · show zl ((lss x z) 3) * zl ((lss x z) 7) - zl ((lss x z) 4) * zl ((lss x z) 6) = zl (cr3 (lss x z) 1 2)
      rw [zl_mul, zl_mul, zl_sub]
      rfl
    · exact (zl_of _).symm
    · exact (zl_of _).symm
    · exact (zl_of _).symm
  have u0 : det9 (lss x z) = 0 → ∀ row9 : Nat → Int64, X 57 [some (.ref 0), some (.ref 9), some (.long (zl z)), none, some (.int (nI 0)), none, none, none, none] [] (GR n nm ng ns ngr pp av be so ro tb gv sd gr row9 table (fun i => zl (x i)) (fun i => zl (lss x z i))) := by
    intro d row9
    have good : nz3 (cr3 (lss x z) 0) = true → ∃ row', some (Value.int (nI 2)) = some (.int (nI (rkv (lss x z)).1)) ∧ ((rkv (lss x z)).1 ≠ 3 → ∀ i, i < 3 → row' i = zl ((rkv (lss x z)).2 i)) ∧ (GR n nm ng ns ngr pp av be so ro tb gv sd gr (fun i => zl (if i < 3 then cr3 (lss x z) 0 i else (row9 i).toInt)) table (fun i => zl (x i)) (fun i => zl (lss x z i))) = GR n nm ng ns ngr pp av be so ro tb gv sd gr row' table (fun i => zl (x i)) (fun i => zl (lss x z i)) := fun hn => ok 2 _ row9 (by
      unfold rkv
      rw [if_neg (fun q => q d), hn]; rfl)
    have test : X 160 [some (.ref 0), some (.ref 9), some (.long (zl z)), none, some (.int (nI 0)), none, none, none, none] [] (GR n nm ng ns ngr pp av be so ro tb gv sd gr (fun i => zl (if i < 3 then cr3 (lss x z) 0 i else (row9 i).toInt)) table (fun i => zl (x i)) (fun i => zl (lss x z i))) := by
      refine hX.run (oc := []) kX11_rank_ok ftX11_ok ctX11_ok xnoc [57] [] [] 60 ?_
      refine ⟨fun h => ?_, fun h => ?_⟩
      · have z0 : cr3 (lss x z) 0 0 = 0 := (zl_eq (jc 0 (by omega) 0 (by omega)) j0).mp (lgc_eq.mp h)
        refine ⟨fun h => ?_, fun h => ?_⟩
        · have z1 : cr3 (lss x z) 0 1 = 0 := (zl_eq (jc 0 (by omega) 1 (by omega)) j0).mp (lgc_eq.mp h)
          refine ⟨fun h => ?_, fun h => ?_⟩
          · have z2 : cr3 (lss x z) 0 2 = 0 := (zl_eq (jc 0 (by omega) 2 (by omega)) j0).mp (lgc_eq.mp h)
            exact u1 d (nz3_f.mpr ⟨z0, z1, z2⟩) _
          · have z2 : ¬ cr3 (lss x z) 0 2 = 0 := fun q => h (lgc_eq.mpr ((zl_eq (jc 0 (by omega) 2 (by omega)) j0).mpr q))
            exact good (nz3_t (Or.inr (Or.inr z2)))
        · have z1 : ¬ cr3 (lss x z) 0 1 = 0 := fun q => h (lgc_eq.mpr ((zl_eq (jc 0 (by omega) 1 (by omega)) j0).mpr q))
          exact good (nz3_t (Or.inr (Or.inl z1)))
      · have z0 : ¬ cr3 (lss x z) 0 0 = 0 := fun q => h (lgc_eq.mpr ((zl_eq (jc 0 (by omega) 0 (by omega)) j0).mpr q))
        exact good (nz3_t (Or.inl z0))
    refine hX.run (oc := []) kX11_rank_ok ftX11_ok ctX11_ok xnoc [160] [60, 77] [] 300 ?_
    refine hX.alike (G2 := GR n nm ng ns ngr pp av be so ro tb gv sd gr (fun i => zl (if i < 3 then cr3 (lss x z) 0 i else (row9 i).toInt)) table (fun i => zl (x i)) (fun i => zl (lss x z i))) (hX.less test ⟨rfl, rfl, rfl, rfl, trivial⟩) ⟨xsame_rf _, xsame_rf _, xsame_rf _, xsame_rf _, xsame_rf _, xsame_rf _, xsame_rf _, ⟨rfl, fun i hi => ?_⟩, xsame_rf _, xsame_rf _, xsame_rf _, trivial⟩
    rcases (show i = 0 ∨ i = 1 ∨ i = 2 ∨ i = 3 ∨ i = 4 ∨ i = 5 by omega) with rfl | rfl | rfl | rfl | rfl | rfl
    · show zl ((lss x z) 1) * zl ((lss x z) 5) - zl ((lss x z) 2) * zl ((lss x z) 4) = zl (cr3 (lss x z) 0 0)
      rw [zl_mul, zl_mul, zl_sub]
      rfl
    · show zl ((lss x z) 2) * zl ((lss x z) 3) - zl ((lss x z) 0) * zl ((lss x z) 5) = zl (cr3 (lss x z) 0 1)
      rw [zl_mul, zl_mul, zl_sub]
      rfl
    · show zl ((lss x z) 0) * zl ((lss x z) 4) - zl ((lss x z) 1) * zl ((lss x z) 3) = zl (cr3 (lss x z) 0 2)
      rw [zl_mul, zl_mul, zl_sub]
      rfl
    · exact (zl_of _).symm
    · exact (zl_of _).symm
    · exact (zl_of _).symm
  refine hX.run (oc := []) kX11_rank_ok ftX11_ok ctX11_ok xnoc [40] [7, 24] [] 250 ?_
  refine hX.alike (G2 := GR n nm ng ns ngr pp av be so ro tb gv sd gr row table (fun i => zl (x i)) (fun i => zl (lss x z i))) ?_ ⟨xsame_rf _, xsame_rf _, xsame_rf _, xsame_rf _, xsame_rf _, xsame_rf _, xsame_rf _, xsame_rf _, xsame_rf _, xsame_rf _, ⟨rfl, fun i hi => ?_⟩, trivial⟩
  rotate_left
  · rcases (show i = 0 ∨ i = 1 ∨ i = 2 ∨ i = 3 ∨ i = 4 ∨ i = 5 ∨ i = 6 ∨ i = 7 ∨ i = 8 by omega) with rfl | rfl | rfl | rfl | rfl | rfl | rfl | rfl | rfl
    · exact zl_sub (x 0) z
    · exact zl_sub (x 1) 0
    · exact zl_sub (x 2) 0
    · exact zl_sub (x 3) 0
    · exact zl_sub (x 4) z
    · exact zl_sub (x 5) 0
    · exact zl_sub (x 6) 0
    · exact zl_sub (x 7) 0
    · exact zl_sub (x 8) z
  refine hX.run (oc := []) kX11_rank_ok ftX11_ok ctX11_ok xnoc [] [] [] 60 ?_
  refine hX.callS [10] [] (c_det l (lss x z)) yX11_det_ok lkX11_132 ssX11_det ⟨rfl, rfl, by decide, by decide⟩ (kX11_rank_ok.at 44 rfl) rfl rfl (by decide) ⟨rfl, trivial⟩ rfl (fun _ _ q => by rw [q.2]) (fun r9 G1 q => ?_)
  obtain ⟨rfl, rfl⟩ := q
  refine hX.run (oc := []) kX11_rank_ok ftX11_ok ctX11_ok xnoc [57] [] [] 60 ?_
  refine ⟨fun h => ?_, fun h => ?_⟩
  · have d : det9 (lss x z) = 0 := (zl_eq jd j0).mp (lgc_eq.mp h)
    exact hX.less (u0 d row) ⟨rfl, rfl, rfl, rfl, trivial⟩
  · have d : ¬ det9 (lss x z) = 0 := fun q => h (lgc_eq.mpr ((zl_eq jd j0).mpr q))
    have e : rkv (lss x z) = (3, fun _ => 0) := by unfold rkv; rw [if_pos d]
    rw [e]
    exact ⟨row, rfl, fun q => absurd rfl q, rfl⟩
set_option maxHeartbeats 4000000 in
set_option maxRecDepth 100000 in
theorem c_isTwiceAll (l : Launch) (n nm ng ns ngr : Int32) (pp av be : Int64) (so ro tb gv sd gr : Nat → Int32) (row table two : Nat → Int64) (x : Nat → Int) (hx : ∀ i, i < 9 → ab (x i) 500) : xM l yX11_isTwiceAll cX11_isTwiceAll 2 (some .boolean) rX11_isTwiceAll [.ref 0, .ref 9] (GR n nm ng ns ngr pp av be so ro tb gv sd gr row table (fun i => zl (x i)) two) (fun r G => ((all9 (mul9 x x) → r = some (.int 1)) ∧ (¬ all9 (mul9 x x) → r = some (.int 0))) ∧ G = GR n nm ng ns ngr pp av be so ro tb gv sd gr row table (fun i => zl (x i)) (fun i => zl (mul9 x x i))) := by
  refine xM.of (by decide) (Nat.le_of_ble_eq_true rfl) (fun X hX => ?_)
  refine hX.run (oc := []) kX11_isTwiceAll_ok ftX11_ok ctX11_ok xnoc [] [] [] 20 ?_
  refine hX.callS [9, 10] [] (c_times2 l x two) yX11_times_ok lkX11_128 ssX11_times ⟨rfl, rfl, by decide, by decide⟩ (kX11_isTwiceAll_ok.at 6 rfl) rfl rfl (by decide) ⟨rfl, rfl, trivial⟩ rfl (fun _ _ q => by rw [q.2]; rfl) (fun r9 G1 q => ?_)
  obtain ⟨rfl, rfl⟩ := q
  refine hX.run (oc := []) kX11_isTwiceAll_ok ftX11_ok ctX11_ok xnoc [] [] [] 20 ?_
  refine hX.callV [10, 0] [] (c_isAll l (mul9 x x) (fun i hi => ab_jr (mul9_bd hx hx i hi) (by decide))) yX11_isAll_ok lkX11_232 ivX11_isAll slX11_isAll ⟨rfl, rfl, by decide, by decide⟩ (kX11_isTwiceAll_ok.at 14 rfl) rfl rfl (by decide) rfl rfl rfl ⟨rfl, trivial⟩ rfl (fun _ _ q => by rw [q.2]) (fun r9 G1 q => ?_)
  obtain ⟨⟨q1, q2⟩, rfl⟩ := q
  by_cases hc : all9 (mul9 x x)
  · rw [q1 hc]
    refine hX.run (oc := []) kX11_isTwiceAll_ok ftX11_ok ctX11_ok xnoc [] [] [] 20 ?_
    exact ⟨rfl, ⟨fun _ => rfl, fun q => absurd hc q⟩, rfl⟩
  · rw [q2 hc]
    refine hX.run (oc := []) kX11_isTwiceAll_ok ftX11_ok ctX11_ok xnoc [] [] [] 20 ?_
    exact ⟨rfl, ⟨fun q => absurd q hc, fun _ => rfl⟩, rfl⟩
