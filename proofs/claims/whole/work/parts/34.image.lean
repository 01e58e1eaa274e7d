theorem mul9_bd2 {x y : Nat → Int} {A B : Int} (hx : ∀ i, i < 9 → ab (x i) A) (hy : ∀ i, i < 9 → ab (y i) B) (i : Nat) (hi : i < 9) : ab (mul9 x y i) (A * B + A * B + A * B) := by
  have h1 := Nat.mod_lt i (show 0 < 3 by omega)
  exact ab_add (ab_add (ab_mul (hx (3 * (i / 3)) (by omega)) (hy (i % 3) (by omega))) (ab_mul (hx (3 * (i / 3) + 1) (by omega)) (hy (3 + i % 3) (by omega)))) (ab_mul (hx (3 * (i / 3) + 2) (by omega)) (hy (6 + i % 3) (by omega)))
/-- a conic's even table -/
def ev6 (c : Nat → Int) (i : Nat) : Int := if i = 0 then c 0 * 2 else if i = 1 then c 1 * 1 else if i = 2 then c 3 * 1 else if i = 3 then c 1 * 1 else if i = 4 then c 2 * 2 else if i = 5 then c 4 * 1 else if i = 6 then c 3 * 1 else if i = 7 then c 4 * 1 else c 5 * 2
def tr9 (x : Nat → Int) (i : Nat) : Int := x (3 * (i % 3) + i / 3)
def cimg (c A : Nat → Int) (i : Nat) : Int := if i = 0 then mul9 (tr9 A) (mul9 (ev6 c) A) 0 else if i = 1 then 2 * mul9 (tr9 A) (mul9 (ev6 c) A) 1 else if i = 2 then mul9 (tr9 A) (mul9 (ev6 c) A) 4 else if i = 3 then 2 * mul9 (tr9 A) (mul9 (ev6 c) A) 2 else if i = 4 then 2 * mul9 (tr9 A) (mul9 (ev6 c) A) 5 else mul9 (tr9 A) (mul9 (ev6 c) A) 8
def pimg (T r : Nat → Int) (i : Nat) : Int := T (3 * i) * r 0 + T (3 * i + 1) * r 1 + T (3 * i + 2) * r 2
def limg (A r : Nat → Int) (i : Nat) : Int := A i * r 0 + A (3 + i) * r 1 + A (6 + i) * r 2
def imgv (s : Nat) (T r : Nat → Int) : Nat → Int := if s = 2 then cimg r (adj9 T) else if s = 0 then pimg T r else limg (adj9 T) r
theorem ev6_bd {c : Nat → Int} (h : ∀ i, i < 6 → ab (c i) 500) (i : Nat) (hi : i < 9) : ab (ev6 c i) 1000 := by
  rcases (show i = 0 ∨ i = 1 ∨ i = 2 ∨ i = 3 ∨ i = 4 ∨ i = 5 ∨ i = 6 ∨ i = 7 ∨ i = 8 by omega) with rfl | rfl | rfl | rfl | rfl | rfl | rfl | rfl | rfl
  · exact ab_le (ab_mul (B := 2) (h 0 (by omega)) ⟨by omega, by omega⟩) (by omega)
  · exact ab_le (ab_mul (B := 1) (h 1 (by omega)) ⟨by omega, by omega⟩) (by omega)
  · exact ab_le (ab_mul (B := 1) (h 3 (by omega)) ⟨by omega, by omega⟩) (by omega)
  · exact ab_le (ab_mul (B := 1) (h 1 (by omega)) ⟨by omega, by omega⟩) (by omega)
  · exact ab_le (ab_mul (B := 2) (h 2 (by omega)) ⟨by omega, by omega⟩) (by omega)
  · exact ab_le (ab_mul (B := 1) (h 4 (by omega)) ⟨by omega, by omega⟩) (by omega)
  · exact ab_le (ab_mul (B := 1) (h 3 (by omega)) ⟨by omega, by omega⟩) (by omega)
  · exact ab_le (ab_mul (B := 1) (h 4 (by omega)) ⟨by omega, by omega⟩) (by omega)
  · exact ab_le (ab_mul (B := 2) (h 5 (by omega)) ⟨by omega, by omega⟩) (by omega)
theorem tr9_bd {x : Nat → Int} {A : Int} (h : ∀ i, i < 9 → ab (x i) A) (i : Nat) (hi : i < 9) : ab (tr9 x i) A := h _ (by have := Nat.mod_lt i (show 0 < 3 by omega); omega)
theorem cimg_bd {c A : Nat → Int} (h : ∀ i, i < 6 → ab (c i) 500) (hA : ∀ i, i < 9 → ab (A i) 500000) (i : Nat) (hi : i < 6) : ab (cimg c A i) 9000000000000000 := by
  have h1 := mul9_bd2 (tr9_bd hA) (mul9_bd2 (ev6_bd h) hA)
  have h2 : ∀ k, k < 9 → ab (mul9 (tr9 A) (mul9 (ev6 c) A) k) 4500000000000000 := fun k hk => ab_le (h1 k hk) (by decide)
  have h3 : ∀ k, k < 9 → ab (2 * mul9 (tr9 A) (mul9 (ev6 c) A) k) 9000000000000000 := fun k hk => ab_le (ab_mul (A := 2) ⟨by omega, by omega⟩ (h2 k hk)) (by decide)
  rcases (show i = 0 ∨ i = 1 ∨ i = 2 ∨ i = 3 ∨ i = 4 ∨ i = 5 by omega) with rfl | rfl | rfl | rfl | rfl | rfl
  · exact ab_le (h2 0 (by omega)) (by decide)
  · exact h3 1 (by omega)
  · exact ab_le (h2 4 (by omega)) (by decide)
  · exact h3 2 (by omega)
  · exact h3 5 (by omega)
  · exact ab_le (h2 8 (by omega)) (by decide)
set_option maxHeartbeats 4000000 in
set_option maxRecDepth 100000 in
theorem c_conicImage (l : Launch) (nm ng ns ngr : Int32) (pp av be : Int64) (so ro tb gv sd gr : Nat → Int32) (row table one two : Nat → Int64) (S : SO) (hS : RO S so ro) (a : Nat) (ha : a < S.1) (h2 : S.2.1 a = 2) (A : Nat → Int) : xM l yX11_conicImage cX11_conicImage 5 (none : Option FieldType) rX11_conicImage [.ref 0, .int (nI a)] (GR (nI S.1) nm ng ns ngr pp av be so ro tb gv sd gr row table one (fun i => zl (A i))) (fun r G => r = none ∧ G = GR (nI S.1) nm ng ns ngr pp av be so ro tb gv sd gr (fun i => zl (cimg (S.2.2 a) A i)) (fun i => zl (mul9 (tr9 A) (mul9 (ev6 (S.2.2 a)) A) i)) (fun i => zl (mul9 (ev6 (S.2.2 a)) A i)) (fun i => zl (A i))) := by
  refine xM.of (by decide) (Nat.le_of_ble_eq_true rfl) (fun X hX => ?_)
  have hoc := xoc1 (oAtS_ok hX (by decide) hS) xnoc
  refine hX.run (oc := [(156, oAtS S ro)]) kX11_conicImage_ok ftX11_ok ctX11_ok hoc [] [4, 11, 16, 20, 29, 44, 55, 83] [] 500 ?_
  refine ⟨rfl, a, rfl, ⟨ha, wid6 h2 (by decide)⟩, ?_⟩
  refine ⟨rfl, a, rfl, ⟨ha, wid6 h2 (by decide)⟩, ?_⟩
  refine ⟨rfl, a, rfl, ⟨ha, wid6 h2 (by decide)⟩, ?_⟩
  refine ⟨rfl, a, rfl, ⟨ha, wid6 h2 (by decide)⟩, ?_⟩
  refine ⟨rfl, a, rfl, ⟨ha, wid6 h2 (by decide)⟩, ?_⟩
  refine ⟨rfl, a, rfl, ⟨ha, wid6 h2 (by decide)⟩, ?_⟩
  refine ⟨rfl, a, rfl, ⟨ha, wid6 h2 (by decide)⟩, ?_⟩
  refine ⟨rfl, a, rfl, ⟨ha, wid6 h2 (by decide)⟩, ?_⟩
  refine ⟨rfl, a, rfl, ⟨ha, wid6 h2 (by decide)⟩, ?_⟩
  refine hX.alike (G2 := GR (nI S.1) nm ng ns ngr pp av be so ro tb gv sd gr row (fun i => zl (ev6 (S.2.2 a) i)) one (fun i => zl (A i))) ?_ ⟨xsame_rf _, xsame_rf _, xsame_rf _, xsame_rf _, xsame_rf _, xsame_rf _, xsame_rf _, xsame_rf _, ⟨rfl, fun i hi => ?_⟩, xsame_rf _, xsame_rf _, trivial⟩
  rotate_left
  · unfold vp_updL
    dsimp only
    rcases (show i = 0 ∨ i = 1 ∨ i = 2 ∨ i = 3 ∨ i = 4 ∨ i = 5 ∨ i = 6 ∨ i = 7 ∨ i = 8 by omega) with rfl | rfl | rfl | rfl | rfl | rfl | rfl | rfl | rfl
    · exact zl_mul ((S.2.2 a) 0) 2
    · exact zl_mul ((S.2.2 a) 1) 1
    · exact zl_mul ((S.2.2 a) 3) 1
    · exact zl_mul ((S.2.2 a) 1) 1
    · exact zl_mul ((S.2.2 a) 2) 2
    · exact zl_mul ((S.2.2 a) 4) 1
    · exact zl_mul ((S.2.2 a) 3) 1
    · exact zl_mul ((S.2.2 a) 4) 1
    · exact zl_mul ((S.2.2 a) 5) 2
  refine hX.callS [8, 10, 9] [] (c_times l (ev6 (S.2.2 a)) A one) yX11_times_ok lkX11_128 ssX11_times ⟨rfl, rfl, by decide, by decide⟩ (kX11_conicImage_ok.at 119 rfl) rfl rfl (by decide) ⟨rfl, rfl, rfl, trivial⟩ rfl (fun _ _ q => by rw [q.2]; rfl) (fun r9 G1 q => ?_)
  obtain ⟨rfl, rfl⟩ := q
  refine hX.run (oc := [(156, oAtS S ro)]) kX11_conicImage_ok ftX11_ok ctX11_ok hoc [209] [126, 133] [] 700 ?_
  refine hX.alike (G2 := GR (nI S.1) nm ng ns ngr pp av be so ro tb gv sd gr row (fun i => zl (mul9 (tr9 A) (mul9 (ev6 (S.2.2 a)) A) i)) (fun i => zl (mul9 (ev6 (S.2.2 a)) A i)) (fun i => zl (A i))) ?_ ⟨xsame_rf _, xsame_rf _, xsame_rf _, xsame_rf _, xsame_rf _, xsame_rf _, xsame_rf _, xsame_rf _, ⟨rfl, fun i hi => ?_⟩, xsame_rf _, xsame_rf _, trivial⟩
  rotate_left
  · unfold vp_updL
    dsimp only
    simp only [zl_mul, zl_add]
    rcases (show i = 0 ∨ i = 1 ∨ i = 2 ∨ i = 3 ∨ i = 4 ∨ i = 5 ∨ i = 6 ∨ i = 7 ∨ i = 8 by omega) with rfl | rfl | rfl | rfl | rfl | rfl | rfl | rfl | rfl <;> rfl
  refine hX.run (oc := [(156, oAtS S ro)]) kX11_conicImage_ok ftX11_ok ctX11_ok hoc [294] [] [] 120 ?_
  refine hX.alike (G2 := GR (nI S.1) nm ng ns ngr pp av be so ro tb gv sd gr (fun i => zl (cimg (S.2.2 a) A i)) (fun i => zl (mul9 (tr9 A) (mul9 (ev6 (S.2.2 a)) A) i)) (fun i => zl (mul9 (ev6 (S.2.2 a)) A i)) (fun i => zl (A i))) ?_ ⟨xsame_rf _, xsame_rf _, xsame_rf _, xsame_rf _, xsame_rf _, xsame_rf _, xsame_rf _, ⟨rfl, fun i hi => ?_⟩, xsame_rf _, xsame_rf _, xsame_rf _, trivial⟩
  rotate_left
  · unfold vp_updL
    dsimp only
    rcases (show i = 0 ∨ i = 1 ∨ i = 2 ∨ i = 3 ∨ i = 4 ∨ i = 5 by omega) with rfl | rfl | rfl | rfl | rfl | rfl
    · rfl
    · exact zl_mul 2 _
    · rfl
    · exact zl_mul 2 _
    · exact zl_mul 2 _
    · rfl
  refine hX.run (oc := [(156, oAtS S ro)]) kX11_conicImage_ok ftX11_ok ctX11_ok hoc [] [] [] 10 ?_
  exact ⟨rfl, rfl⟩
def sp_imageO (S : SS) (m k : Int) : Int × SO := if (0 ≤ m ∧ m < S.2.1.1) ∧ (0 ≤ k ∧ k < S.1.1) then addO S.1 (S.1.2.1 k.toNat) (wid (S.1.2.1 k.toNat)) (imgv (S.1.2.1 k.toNat) (S.2.1.2 m.toNat) (S.1.2.2 k.toNat)) else (-1, S.1)
def sp_image (S : SS) (m k : Int) : Int × SS := withO (sp_imageO S m k) S
theorem sp_imageO_le (S : SS) (m k : Int) : S.1.1 ≤ (sp_imageO S m k).2.1 := by
  unfold sp_imageO
  split
  · exact addO_le _ _ _ _
  · exact Nat.le_refl _
/-- no image's row is 0 -/
def imgs (S : SS) : Prop := ∀ m k, m < S.2.1.1 → k < S.1.1 → gN (imgv (S.1.2.1 k) (S.2.1.2 m) (S.1.2.2 k)) (wid (S.1.2.1 k)) ≠ 0
set_option maxHeartbeats 4000000 in
set_option maxRecDepth 100000 in
theorem r_image (l : Launch) (S : SS) (G0 : List xE) (hG : RInv S G0) (himg : imgs S) (m k : Int32) : xM l yX11_image cX11_image 6 (some .int) rX11_image [.ref 0, .int m, .int k] G0 (fun r G => r = some (.int (zi (sp_image S m.toInt k.toInt).1)) ∧ RInv (sp_image S m.toInt k.toInt).2 G) := by
  have hG9 := hG
  obtain ⟨pp, av, be, so, ro, tb, gv, sd, gr, row, table, one, two, rfl, hro, hrt, hrv, hrs, hrg, hr1⟩ := hG
  refine xM.of (by decide) (Nat.le_of_ble_eq_true rfl) (fun X hX => ?_)
  have hN := hro.1
  have hM := hrt.1
  have hoc := xoc1 (oIsMap_ok hX (by decide) hM) (xoc1 (oAtS_ok hX (by decide) hro) xnoc)
  have im : ∀ k : Int32, isM S.2.1 k ↔ (0 ≤ k.toInt ∧ k.toInt < S.2.1.1) := fun k => isM_iff (by omega)
  have bad : ¬ ((0 ≤ m.toInt ∧ m.toInt < S.2.1.1) ∧ (0 ≤ k.toInt ∧ k.toInt < S.1.1)) → some (Value.int (Int32.ofInt (-1))) = some (Value.int (zi (sp_image S m.toInt k.toInt).1)) ∧ RInv (sp_image S m.toInt k.toInt).2 (GR (nI S.1.1) (nI S.2.1.1) (nI S.2.2.1.1) (nI S.2.2.2.1.1) (nI S.2.2.2.2.1) pp av be so ro tb gv sd gr row table one two) := by
    intro h
    have e : sp_image S m.toInt k.toInt = (-1, S) := by unfold sp_image sp_imageO; rw [if_neg h]; rfl
    rw [e]
    exact ⟨rfl, hG9⟩
  refine hX.run (oc := [(434, oIsMap S.2.1), (156, oAtS S.1 ro)]) kX11_image_ok ftX11_ok ctX11_ok hoc [22] [5] [] 60 ?_
  refine ⟨rfl, fun h1 => ?_, fun h1 => bad (fun q => h1 ((im _).mpr q.1))⟩
  refine ⟨fun h => bad (fun q => (obj_iff hN).mpr q.2 |>.1 h), fun h0 => ?_⟩
  refine ⟨fun h => ?_, fun h => bad (fun q => h ((obj_iff hN).mpr q.2).2)⟩
  have g1 := (im _).mp h1
  have g2 := (obj_iff hN).mp ⟨h0, h⟩
  obtain ⟨a, ha, ea⟩ := h1
  have hb0 : ∃ b : Nat, b < S.1.1 ∧ k = nI b := ⟨k.toInt.toNat, by omega, nI_of_int (by omega) (by omega)⟩
  obtain ⟨b, hb, eb⟩ := hb0
  subst ea eb
  have e1 : (nI a).toInt = (a : Int) := nI_toInt (by omega)
  have e2 : (nI b).toInt = (b : Int) := nI_toInt (by omega)
  obtain ⟨s1, s2⟩ := hro.2.1 b hb
  have esp : sp_image S (nI a).toInt (nI b).toInt = withO (addO S.1 (S.1.2.1 b) (wid (S.1.2.1 b)) (imgv (S.1.2.1 b) (S.2.1.2 a) (S.1.2.2 b))) S := by
    unfold sp_image sp_imageO
    rw [if_pos ⟨g1, g2⟩, e1, e2]; rfl
  have hle := sp_imageO_le S (nI a).toInt (nI b).toInt
  have hle2 : S.1.1 ≤ (addO S.1 (S.1.2.1 b) (wid (S.1.2.1 b)) (imgv (S.1.2.1 b) (S.2.1.2 a) (S.1.2.2 b))).2.1 := addO_le _ _ _ _
  rw [esp] at hX
  have A5 : ∀ i, i < 9 → ab (adj9 (S.2.1.2 a) i) 500000 := fun i _ => adj9_bd (fun i hi => hrt.bd ha hi) i
  have b5 : ∀ i, i < wid (S.1.2.1 b) → ab (S.1.2.2 b i) 500 := fun i hi => hro.bd hb hi
  have jz : ∀ i, i < wid (S.1.2.1 b) → jr (imgv (S.1.2.1 b) (S.2.1.2 a) (S.1.2.2 b) i) := by
    intro i hi
    unfold imgv
    split
    · next h2 =>
      have hi : i < 6 := by rw [h2] at hi; exact hi
      exact ab_jr (cimg_bd (fun i hi => b5 i (wid6 h2 hi)) A5 i hi) (by decide)
    · next h2 =>
      have hi : i < 3 := by unfold wid at hi; rw [if_neg h2] at hi; exact hi
      split
      · exact ab_jr (ab_add (ab_add (ab_mul (hrt.bd ha (i := 3 * i) (by omega)) (b5 0 (wid3 _ _ (by omega)))) (ab_mul (hrt.bd ha (i := 3 * i + 1) (by omega)) (b5 1 (wid3 _ _ (by omega))))) (ab_mul (hrt.bd ha (i := 3 * i + 2) (by omega)) (b5 2 (wid3 _ _ (by omega))))) (by decide)
      · exact ab_jr (ab_add (ab_add (ab_mul (A5 i (by omega)) (b5 0 (wid3 _ _ (by omega)))) (ab_mul (A5 (3 + i) (by omega)) (b5 1 (wid3 _ _ (by omega))))) (ab_mul (A5 (6 + i) (by omega)) (b5 2 (wid3 _ _ (by omega))))) (by decide)
  have fin : ∀ (z : Nat → Int) (table9 one9 : Nat → Int64), (∀ i, i < wid (S.1.2.1 b) → z i = imgv (S.1.2.1 b) (S.2.1.2 a) (S.1.2.2 b) i) → X 157 [some (.ref 0), some (.int (nI a)), some (.int (nI b)), some (.int (nI (S.1.2.1 b))), none, none] [] (GR (nI S.1.1) (nI S.2.1.1) (nI S.2.2.1.1) (nI S.2.2.2.1.1) (nI S.2.2.2.2.1) pp av be so ro tb gv sd gr (fun i => zl (z i)) (table9) (one9) (fun i => zl (adj9 (S.2.1.2 a) i))) := by
    intro z table9 one9 hz
    have hc := c_object l (nI S.2.1.1) (nI S.2.2.1.1) (nI S.2.2.2.1.1) (nI S.2.2.2.2.1) pp av be so ro tb gv sd gr table9 one9 (fun i => zl (adj9 (S.2.1.2 a) i)) S.1 (S.1.2.1 b) z s2 hro (fun i hi => by rw [hz i hi]; exact jz i hi) (by rw [gN_congr hz]; exact himg a b ha hb)
    rw [addO_congr hz] at hc
    refine hX.run (oc := [(434, oIsMap S.2.1), (156, oAtS S.1 ro)]) kX11_image_ok ftX11_ok ctX11_ok hoc [] [] [] 60 ?_
    refine hX.callV0 (rest := []) hc yX11_object_ok lkX11_66 ivX11_object slX11_object ⟨rfl, rfl, by decide, by decide⟩ (kX11_image_ok.at 159 rfl) rfl rfl (by decide) rfl rfl rfl (fun _ _ q => by obtain ⟨_, _, _, -, -, rfl⟩ := q; rfl) (fun r9 G1 q => ?_)
    obtain ⟨so2, ro2, row2, rfl, q2, rfl⟩ := q
    refine hX.run (oc := [(434, oIsMap S.2.1), (156, oAtS S.1 ro)]) kX11_image_ok ftX11_ok ctX11_ok hoc [] [] [] 60 ?_
    exact ⟨rfl, pp, av, be, so2, ro2, tb, gv, sd, gr, row2, table9, one9, _, rfl, q2, hrt, hrv.more hle2, hrs, hrg, hr1⟩
  have at49 : X 49 [some (.ref 0), some (.int (nI a)), some (.int (nI b)), some (.int (nI (S.1.2.1 b))), none, none] [] (GR (nI S.1.1) (nI S.2.1.1) (nI S.2.2.1.1) (nI S.2.2.2.1.1) (nI S.2.2.2.2.1) pp av be so ro tb gv sd gr (row) (table) (fun i => zl (S.2.1.2 a i)) (fun i => zl (adj9 (S.2.1.2 a) i))) := by
    refine hX.run (oc := [(434, oIsMap S.2.1), (156, oAtS S.1 ro)]) kX11_image_ok ftX11_ok ctX11_ok hoc [62] [] [] 60 ?_
    refine ⟨fun h2 => ?_, fun h2 => ?_⟩
    · have h3 : S.1.2.1 b = 2 := by
        have h4 : nI (S.1.2.1 b) = nI 2 := h2
        rwa [nI_eq (by omega) (by omega)] at h4
      refine hX.callV0 (rest := []) (c_conicImage l (nI S.2.1.1) (nI S.2.2.1.1) (nI S.2.2.2.1.1) (nI S.2.2.2.2.1) pp av be so ro tb gv sd gr row table (fun i => zl (S.2.1.2 a i)) (fun i => zl (adj9 (S.2.1.2 a) i)) S.1 hro b hb h3 (adj9 (S.2.1.2 a))) yX11_conicImage_ok lkX11_228 ivX11_conicImage slX11_conicImage ⟨rfl, rfl, by decide, by decide⟩ (kX11_image_ok.at 56 rfl) rfl rfl (by decide) rfl rfl rfl (fun _ _ q => by rw [q.2]; rfl) (fun r9 G1 q => ?_)
      obtain ⟨rfl, rfl⟩ := q
      refine hX.run (oc := [(434, oIsMap S.2.1), (156, oAtS S.1 ro)]) kX11_image_ok ftX11_ok ctX11_ok hoc [157] [] [] 60 ?_
      exact fin _ _ _ (fun i hi => by unfold imgv; rw [if_pos h3])
    · have h3 : ¬ S.1.2.1 b = 2 := fun e => h2 (by rw [e]; rfl)
      have w3 : wid (S.1.2.1 b) = 3 := by unfold wid; rw [if_neg h3]
      by_cases hp : S.1.2.1 b = 0
      · have h0 : nI (S.1.2.1 b) = 0 := by rw [hp]; rfl
        have iv : imgv (S.1.2.1 b) (S.2.1.2 a) (S.1.2.2 b) = pimg (S.2.1.2 a) (S.1.2.2 b) := by unfold imgv; rw [if_neg h3, if_pos hp]
        refine hX.run (oc := [(434, oIsMap S.2.1), (156, oAtS S.1 ro)]) kX11_image_ok ftX11_ok ctX11_ok hoc [157] [68, 85] [] 900 ?_
        refine ⟨fun _ => ?_, fun h => absurd h0 h⟩
        refine ⟨rfl, b, rfl, ⟨hb, wid3 _ _ (by decide)⟩, ?_⟩
        refine ⟨fun _ => ?_, fun h => absurd h0 h⟩
        refine ⟨rfl, b, rfl, ⟨hb, wid3 _ _ (by decide)⟩, ?_⟩
        refine ⟨fun _ => ?_, fun h => absurd h0 h⟩
        refine ⟨rfl, b, rfl, ⟨hb, wid3 _ _ (by decide)⟩, ?_⟩
        refine ⟨fun _ => ?_, fun h => absurd h0 h⟩
        refine ⟨rfl, b, rfl, ⟨hb, wid3 _ _ (by decide)⟩, ?_⟩
        refine ⟨fun _ => ?_, fun h => absurd h0 h⟩
        refine ⟨rfl, b, rfl, ⟨hb, wid3 _ _ (by decide)⟩, ?_⟩
        refine ⟨fun _ => ?_, fun h => absurd h0 h⟩
        refine ⟨rfl, b, rfl, ⟨hb, wid3 _ _ (by decide)⟩, ?_⟩
        refine ⟨fun _ => ?_, fun h => absurd h0 h⟩
        refine ⟨rfl, b, rfl, ⟨hb, wid3 _ _ (by decide)⟩, ?_⟩
        refine ⟨fun _ => ?_, fun h => absurd h0 h⟩
        refine ⟨rfl, b, rfl, ⟨hb, wid3 _ _ (by decide)⟩, ?_⟩
        refine ⟨fun _ => ?_, fun h => absurd h0 h⟩
        refine ⟨rfl, b, rfl, ⟨hb, wid3 _ _ (by decide)⟩, ?_⟩
        refine hX.alike (G2 := GR (nI S.1.1) (nI S.2.1.1) (nI S.2.2.1.1) (nI S.2.2.2.1.1) (nI S.2.2.2.2.1) pp av be so ro tb gv sd gr (fun i => zl (if i < 3 then pimg (S.2.1.2 a) (S.1.2.2 b) i else (row i).toInt)) (table) (fun i => zl (S.2.1.2 a i)) (fun i => zl (adj9 (S.2.1.2 a) i))) ?_ ⟨xsame_rf _, xsame_rf _, xsame_rf _, xsame_rf _, xsame_rf _, xsame_rf _, xsame_rf _, ⟨rfl, fun i hi => ?_⟩, xsame_rf _, xsame_rf _, xsame_rf _, trivial⟩
        rotate_left
        · rcases (show i = 0 ∨ i = 1 ∨ i = 2 ∨ i = 3 ∨ i = 4 ∨ i = 5 by omega) with rfl | rfl | rfl | rfl | rfl | rfl
          · show zl 0 + zl (S.2.1.2 a 0) * zl (S.1.2.2 b 0) + zl (S.2.1.2 a 1) * zl (S.1.2.2 b 1) + zl (S.2.1.2 a 2) * zl (S.1.2.2 b 2) = zl (pimg (S.2.1.2 a) (S.1.2.2 b) 0)
            simp only [zl_mul, zl_add, Int.zero_add]
            rfl
          · show zl 0 + zl (S.2.1.2 a 3) * zl (S.1.2.2 b 0) + zl (S.2.1.2 a 4) * zl (S.1.2.2 b 1) + zl (S.2.1.2 a 5) * zl (S.1.2.2 b 2) = zl (pimg (S.2.1.2 a) (S.1.2.2 b) 1)
            simp only [zl_mul, zl_add, Int.zero_add]
            rfl
          · show zl 0 + zl (S.2.1.2 a 6) * zl (S.1.2.2 b 0) + zl (S.2.1.2 a 7) * zl (S.1.2.2 b 1) + zl (S.2.1.2 a 8) * zl (S.1.2.2 b 2) = zl (pimg (S.2.1.2 a) (S.1.2.2 b) 2)
            simp only [zl_mul, zl_add, Int.zero_add]
            rfl
          · exact (zl_of _).symm
          · exact (zl_of _).symm
          · exact (zl_of _).symm
        exact hX.less (fin (fun i => if i < 3 then pimg (S.2.1.2 a) (S.1.2.2 b) i else (row i).toInt) table (fun i => zl (S.2.1.2 a i)) (fun i hi => by rw [w3] at hi; rw [iv]; exact if_pos hi)) ⟨rfl, rfl, rfl, rfl, trivial⟩
      · have h0 : ¬ nI (S.1.2.1 b) = 0 := by
          intro e
          have e4 : nI (S.1.2.1 b) = nI 0 := e
          rw [nI_eq (by omega) (by omega)] at e4
          exact hp e4
        have iv : imgv (S.1.2.1 b) (S.2.1.2 a) (S.1.2.2 b) = limg (adj9 (S.2.1.2 a)) (S.1.2.2 b) := by unfold imgv; rw [if_neg h3, if_neg hp]
        refine hX.run (oc := [(434, oIsMap S.2.1), (156, oAtS S.1 ro)]) kX11_image_ok ftX11_ok ctX11_ok hoc [157] [68, 85] [] 900 ?_
        refine ⟨fun h => absurd h h0, fun _ => ?_⟩
        refine ⟨rfl, b, rfl, ⟨hb, wid3 _ _ (by decide)⟩, ?_⟩
        refine ⟨fun h => absurd h h0, fun _ => ?_⟩
        refine ⟨rfl, b, rfl, ⟨hb, wid3 _ _ (by decide)⟩, ?_⟩
        refine ⟨fun h => absurd h h0, fun _ => ?_⟩
        refine ⟨rfl, b, rfl, ⟨hb, wid3 _ _ (by decide)⟩, ?_⟩
        refine ⟨fun h => absurd h h0, fun _ => ?_⟩
        refine ⟨rfl, b, rfl, ⟨hb, wid3 _ _ (by decide)⟩, ?_⟩
        refine ⟨fun h => absurd h h0, fun _ => ?_⟩
        refine ⟨rfl, b, rfl, ⟨hb, wid3 _ _ (by decide)⟩, ?_⟩
        refine ⟨fun h => absurd h h0, fun _ => ?_⟩
        refine ⟨rfl, b, rfl, ⟨hb, wid3 _ _ (by decide)⟩, ?_⟩
        refine ⟨fun h => absurd h h0, fun _ => ?_⟩
        refine ⟨rfl, b, rfl, ⟨hb, wid3 _ _ (by decide)⟩, ?_⟩
        refine ⟨fun h => absurd h h0, fun _ => ?_⟩
        refine ⟨rfl, b, rfl, ⟨hb, wid3 _ _ (by decide)⟩, ?_⟩
        refine ⟨fun h => absurd h h0, fun _ => ?_⟩
        refine ⟨rfl, b, rfl, ⟨hb, wid3 _ _ (by decide)⟩, ?_⟩
        refine hX.alike (G2 := GR (nI S.1.1) (nI S.2.1.1) (nI S.2.2.1.1) (nI S.2.2.2.1.1) (nI S.2.2.2.2.1) pp av be so ro tb gv sd gr (fun i => zl (if i < 3 then limg (adj9 (S.2.1.2 a)) (S.1.2.2 b) i else (row i).toInt)) (table) (fun i => zl (S.2.1.2 a i)) (fun i => zl (adj9 (S.2.1.2 a) i))) ?_ ⟨xsame_rf _, xsame_rf _, xsame_rf _, xsame_rf _, xsame_rf _, xsame_rf _, xsame_rf _, ⟨rfl, fun i hi => ?_⟩, xsame_rf _, xsame_rf _, xsame_rf _, trivial⟩
        rotate_left
        · rcases (show i = 0 ∨ i = 1 ∨ i = 2 ∨ i = 3 ∨ i = 4 ∨ i = 5 by omega) with rfl | rfl | rfl | rfl | rfl | rfl
          · show zl 0 + zl (adj9 (S.2.1.2 a) 0) * zl (S.1.2.2 b 0) + zl (adj9 (S.2.1.2 a) 3) * zl (S.1.2.2 b 1) + zl (adj9 (S.2.1.2 a) 6) * zl (S.1.2.2 b 2) = zl (limg (adj9 (S.2.1.2 a)) (S.1.2.2 b) 0)
            simp only [zl_mul, zl_add, Int.zero_add]
            rfl
          · show zl 0 + zl (adj9 (S.2.1.2 a) 1) * zl (S.1.2.2 b 0) + zl (adj9 (S.2.1.2 a) 4) * zl (S.1.2.2 b 1) + zl (adj9 (S.2.1.2 a) 7) * zl (S.1.2.2 b 2) = zl (limg (adj9 (S.2.1.2 a)) (S.1.2.2 b) 1)
            simp only [zl_mul, zl_add, Int.zero_add]
            rfl
          · show zl 0 + zl (adj9 (S.2.1.2 a) 2) * zl (S.1.2.2 b 0) + zl (adj9 (S.2.1.2 a) 5) * zl (S.1.2.2 b 1) + zl (adj9 (S.2.1.2 a) 8) * zl (S.1.2.2 b 2) = zl (limg (adj9 (S.2.1.2 a)) (S.1.2.2 b) 2)
            simp only [zl_mul, zl_add, Int.zero_add]
            rfl
          · exact (zl_of _).symm
          · exact (zl_of _).symm
          · exact (zl_of _).symm
        exact hX.less (fin (fun i => if i < 3 then limg (adj9 (S.2.1.2 a)) (S.1.2.2 b) i else (row i).toInt) table (fun i => zl (S.2.1.2 a i)) (fun i hi => by rw [w3] at hi; rw [iv]; exact if_pos hi)) ⟨rfl, rfl, rfl, rfl, trivial⟩
  refine hX.run (oc := [(434, oIsMap S.2.1), (156, oAtS S.1 ro)]) kX11_image_ok ftX11_ok ctX11_ok hoc [] [] [] 60 ?_
  refine hX.callV0 (rest := []) (c_bring_one l (nI S.1.1) (nI S.2.2.1.1) (nI S.2.2.2.1.1) (nI S.2.2.2.2.1) pp av be so ro tb gv sd gr row _ _ _ S.2.1 hrt a ha) yX11_bring_ok lkX11_220 ivX11_bring slX11_bring ⟨rfl, rfl, by decide, by decide⟩ (kX11_image_ok.at 28 rfl) rfl rfl (by decide) rfl rfl rfl (fun _ _ q => by rw [q.2]; rfl) (fun r9 G1 q => ?_)
  obtain ⟨rfl, rfl⟩ := q
  refine hX.run (oc := [(434, oIsMap S.2.1), (156, oAtS S.1 ro)]) kX11_image_ok ftX11_ok ctX11_ok hoc [] [] [] 60 ?_
  refine hX.callS [9, 10] [] (c_turnBack l (S.2.1.2 a) two) yX11_turnBack_ok lkX11_224 ssX11_turnBack ⟨rfl, rfl, by decide, by decide⟩ (kX11_image_ok.at 39 rfl) rfl rfl (by decide) ⟨rfl, rfl, trivial⟩ rfl (fun _ _ q => by rw [q.2]; rfl) (fun r9 G1 q => ?_)
  obtain ⟨rfl, rfl⟩ := q
  refine hX.run (oc := [(434, oIsMap S.2.1), (156, oAtS S.1 ro)]) kX11_image_ok ftX11_ok ctX11_ok hoc [49] [] [47] 60 ?_
  refine ⟨b, rfl, by omega, by omega, ?_⟩
  rw [← s1] at at49
  exact at49
