def cat6 (c p : Nat → Int) : Int := c 0 * p 0 * p 0 + c 1 * p 0 * p 1 + c 2 * p 1 * p 1 + c 3 * p 0 * p 2 + c 4 * p 1 * p 2 + c 5 * p 2 * p 2
def b01 (P : Prop) [Decidable P] : Int := if P then 1 else 0
def sp_on (S : SS) (p q : Int) : Int := if srtI S.1 p = 0 ∧ (srtI S.1 q = 1 ∨ srtI S.1 q = 2) then (if srtI S.1 q = 1 then b01 (dt3 (S.1.2.2 p.toNat) (S.1.2.2 q.toNat) = 0) else b01 (cat6 (S.1.2.2 q.toNat) (S.1.2.2 p.toNat) = 0)) else -1
def dshape (c : Nat → Int) : Int := 2 * c 0 * (4 * c 2 * c 5 - c 4 * c 4) - c 1 * (2 * c 1 * c 5 - c 4 * c 3) + c 3 * (c 1 * c 4 - 2 * c 2 * c 3)
def bshape (c : Nat → Int) : Int := 4 * c 0 * c 2 - c 1 * c 1
def shp (c : Nat → Int) : Int := if dshape c = 0 then 0 else if 0 < bshape c ∧ 0 < c 0 * (if 0 < dshape c then 1 else -1) then 1 else if c 0 = c 2 ∧ c 1 = 0 then 2 else if 0 < bshape c then 3 else if bshape c = 0 then 4 else 5
def sp_shape (S : SS) (k : Int) : Int := if srtI S.1 k = 2 then shp (S.1.2.2 k.toNat) else -1
theorem nI_of_int {x : Int32} {a : Nat} (h : x.toInt = a) (ha : a < 2147483648) : x = nI a := Int32.toInt_inj.mp (by rw [h, nI_toInt (by omega)])
theorem wid6 {s i : Nat} (hs : s = 2) (h : i < 6) : i < wid s := by subst hs; exact h
set_option maxHeartbeats 4000000 in
set_option maxRecDepth 100000 in
theorem r_on (l : Launch) (S : SS) (G0 : List xE) (hG : RInv S G0) (p q : Int32) : xM l yX11_on cX11_on 11 (some .int) rX11_on [.ref 0, .int p, .int q] G0 (fun r G => r = some (.int (zi (sp_on S p.toInt q.toInt))) ∧ RInv S G) := by
  have hG9 := hG
  obtain ⟨pp, av, be, so, ro, tb, gv, sd, gr, row, table, one, two, rfl, hro, hrt, hrv, hrs, hrg, hr1⟩ := hG
  refine xM.of (by decide) (Nat.le_of_ble_eq_true rfl) (fun X hX => ?_)
  have hoc := xoc1 (oSort_ok hX (by decide) hro) (xoc1 (oAtS_ok hX (by decide) hro) xnoc)
  have hN := hro.1
  have i0 : ∀ k : Int32, isS S.1 k (nI 0) ↔ srtI S.1 k.toInt = 0 := fun k => isS_iff hro 0 (by omega)
  have i1 : ∀ k : Int32, isS S.1 k (nI 1) ↔ srtI S.1 k.toInt = 1 := fun k => isS_iff hro 1 (by omega)
  have i2 : ∀ k : Int32, isS S.1 k (nI 2) ↔ srtI S.1 k.toInt = 2 := fun k => isS_iff hro 2 (by omega)
  have go : srtI S.1 p.toInt = 0 → (srtI S.1 q.toInt = 1 ∨ srtI S.1 q.toInt = 2) → X 29 [some (.ref 0), some (.int p), some (.int q), none, none, none, none, none, none, none, none] [] (GR (nI S.1.1) (nI S.2.1.1) (nI S.2.2.1.1) (nI S.2.2.2.1.1) (nI S.2.2.2.2.1) pp av be so ro tb gv sd gr row table one two) := by
    intro hp hq
    obtain ⟨a, ha, ea, ea0⟩ := srtI_nn (s := 0) hp
    have hb : ∃ b : Nat, b < S.1.1 ∧ q.toInt = b := by
      rcases hq with h | h
      · obtain ⟨b, b1, b2, -⟩ := srtI_nn (s := 1) h
        exact ⟨b, b1, b2⟩
      · obtain ⟨b, b1, b2, -⟩ := srtI_nn (s := 2) h
        exact ⟨b, b1, b2⟩
    obtain ⟨b, hb, eb⟩ := hb
    have ea2 := nI_of_int ea (by omega)
    have eb2 := nI_of_int eb (by omega)
    subst ea2
    subst eb2
    have s1 := (hro.2.1 b hb).1
    have s2 := (hro.2.1 b hb).2
    have esp : sp_on S (nI a).toInt (nI b).toInt = if S.1.2.1 b = 1 then b01 (dt3 (S.1.2.2 a) (S.1.2.2 b) = 0) else b01 (cat6 (S.1.2.2 b) (S.1.2.2 a) = 0) := by
      unfold sp_on
      rw [if_pos ⟨hp, hq⟩, ea, eb, srtI_of hb, Int.toNat_natCast, Int.toNat_natCast]
      by_cases h1 : S.1.2.1 b = 1
      · rw [if_pos h1, if_pos (by omega)]
      · rw [if_neg h1, if_neg (by omega)]
    refine hX.run (oc := [(164, oSort S.1 so), (156, oAtS S.1 ro)]) kX11_on_ok ftX11_ok ctX11_ok hoc [] [] [34] 90 ?_
    refine ⟨b, rfl, by omega, by omega, ?_⟩
    refine ⟨fun h1 => ?_, fun h1 => ?_⟩
    · have h2 : S.1.2.1 b = 1 := by
        have h3 : so b = nI 1 := h1
        rwa [s1, nI_eq (by omega) (by omega)] at h3
      rw [if_pos h2] at esp
      refine hX.callV0 (rest := []) (c_dot l (nI S.2.1.1) (nI S.2.2.1.1) (nI S.2.2.2.1.1) (nI S.2.2.2.2.1) pp av be so ro tb gv sd gr row table one two S.1 hro a b ha hb) yX11_dot_ok lkX11_90 ivX11_dot slX11_dot ⟨rfl, rfl, by decide, by decide⟩ (kX11_on_ok.at 42 rfl) rfl rfl (by decide) rfl rfl rfl (fun _ _ q => by rw [q.2]) (fun r9 G1 q => ?_)
      obtain ⟨rfl, rfl⟩ := q
      have j : jr (dt3 (S.1.2.2 a) (S.1.2.2 b)) := ab_jr (ab_add (ab_add (ab_mul (hro.bd ha (wid3 _ 0 (by omega))) (hro.bd hb (wid3 _ 0 (by omega)))) (ab_mul (hro.bd ha (wid3 _ 1 (by omega))) (hro.bd hb (wid3 _ 1 (by omega))))) (ab_mul (hro.bd ha (wid3 _ 2 (by omega))) (hro.bd hb (wid3 _ 2 (by omega))))) (by decide)
      refine hX.run (oc := [(164, oSort S.1 so), (156, oAtS S.1 ro)]) kX11_on_ok ftX11_ok ctX11_ok hoc [] [] [] 20 ?_
      refine ⟨fun h => ?_, fun h => ?_⟩
      · have h4 : zl (dt3 (S.1.2.2 a) (S.1.2.2 b)) = zl 0 := lgc_eq.mp h
        rw [zl_eq j ⟨by omega, by omega⟩] at h4
        rw [esp, b01, if_pos h4]
        exact ⟨rfl, hG9⟩
      · have h4 : ¬ zl (dt3 (S.1.2.2 a) (S.1.2.2 b)) = zl 0 := fun q => h (lgc_eq.mpr q)
        rw [zl_eq j ⟨by omega, by omega⟩] at h4
        rw [esp, b01, if_neg h4]
        exact ⟨rfl, hG9⟩
    · have h2 : ¬ S.1.2.1 b = 1 := fun e => h1 (by rw [s1, e]; rfl)
      have h3 : S.1.2.1 b = 2 := by
        rcases hq with h | h
        · rw [eb, srtI_of hb] at h; omega
        · rw [eb, srtI_of hb] at h; omega
      rw [if_neg h2] at esp
      have b5 := fun i (hi : i < 6) => hro.bd hb (wid6 h3 hi)
      have a5 := fun i (hi : i < 3) => hro.bd ha (wid3 (S.1.2.1 a) i hi)
      have j : jr (cat6 (S.1.2.2 b) (S.1.2.2 a)) := ab_jr (ab_add (ab_add (ab_add (ab_add (ab_add (ab_mul (ab_mul (b5 0 (by omega)) (a5 0 (by omega))) (a5 0 (by omega))) (ab_mul (ab_mul (b5 1 (by omega)) (a5 0 (by omega))) (a5 1 (by omega)))) (ab_mul (ab_mul (b5 2 (by omega)) (a5 1 (by omega))) (a5 1 (by omega)))) (ab_mul (ab_mul (b5 3 (by omega)) (a5 0 (by omega))) (a5 2 (by omega)))) (ab_mul (ab_mul (b5 4 (by omega)) (a5 1 (by omega))) (a5 2 (by omega)))) (ab_mul (ab_mul (b5 5 (by omega)) (a5 2 (by omega))) (a5 2 (by omega)))) (by decide)
      refine ⟨rfl, a, rfl, ⟨ha, wid3 _ _ (by decide)⟩, ?_⟩
      refine ⟨rfl, a, rfl, ⟨ha, wid3 _ _ (by decide)⟩, ?_⟩
      refine ⟨rfl, a, rfl, ⟨ha, wid3 _ _ (by decide)⟩, ?_⟩
      refine ⟨rfl, b, rfl, ⟨hb, wid6 h3 (by decide)⟩, ?_⟩
      refine ⟨rfl, b, rfl, ⟨hb, wid6 h3 (by decide)⟩, ?_⟩
      refine ⟨rfl, b, rfl, ⟨hb, wid6 h3 (by decide)⟩, ?_⟩
      refine ⟨rfl, b, rfl, ⟨hb, wid6 h3 (by decide)⟩, ?_⟩
      refine ⟨rfl, b, rfl, ⟨hb, wid6 h3 (by decide)⟩, ?_⟩
      refine ⟨rfl, b, rfl, ⟨hb, wid6 h3 (by decide)⟩, ?_⟩
      have e : ∀ v : Int64, v = zl (S.1.2.2 b 0) * zl (S.1.2.2 a 0) * zl (S.1.2.2 a 0) + zl (S.1.2.2 b 1) * zl (S.1.2.2 a 0) * zl (S.1.2.2 a 1) + zl (S.1.2.2 b 2) * zl (S.1.2.2 a 1) * zl (S.1.2.2 a 1) + zl (S.1.2.2 b 3) * zl (S.1.2.2 a 0) * zl (S.1.2.2 a 2) + zl (S.1.2.2 b 4) * zl (S.1.2.2 a 1) * zl (S.1.2.2 a 2) + zl (S.1.2.2 b 5) * zl (S.1.2.2 a 2) * zl (S.1.2.2 a 2) → v = zl (cat6 (S.1.2.2 b) (S.1.2.2 a)) := by
        rintro v rfl
        simp only [zl_mul, zl_add]
        rfl
      refine ⟨fun h => ?_, fun h => ?_⟩
      · have h4 : zl (cat6 (S.1.2.2 b) (S.1.2.2 a)) = zl 0 := (e _ rfl).symm.trans (lgc_eq.mp h)
        rw [zl_eq j ⟨by omega, by omega⟩] at h4
        rw [esp, b01, if_pos h4]
        exact ⟨rfl, hG9⟩
      · have h4 : ¬ zl (cat6 (S.1.2.2 b) (S.1.2.2 a)) = zl 0 := fun q => h (lgc_eq.mpr ((e _ rfl).trans q))
        rw [zl_eq j ⟨by omega, by omega⟩] at h4
        rw [esp, b01, if_neg h4]
        exact ⟨rfl, hG9⟩
  have bad : ¬ (srtI S.1 p.toInt = 0 ∧ (srtI S.1 q.toInt = 1 ∨ srtI S.1 q.toInt = 2)) → some (Value.int (Int32.ofInt (-1))) = some (Value.int (zi (sp_on S p.toInt q.toInt))) ∧ RInv S (GR (nI S.1.1) (nI S.2.1.1) (nI S.2.2.1.1) (nI S.2.2.2.1.1) (nI S.2.2.2.2.1) pp av be so ro tb gv sd gr row table one two) := by
    intro h
    have e : sp_on S p.toInt q.toInt = -1 := by unfold sp_on; rw [if_neg h]
    rw [e]
    exact ⟨rfl, hG9⟩
  refine hX.run (oc := [(164, oSort S.1 so), (156, oAtS S.1 ro)]) kX11_on_ok ftX11_ok ctX11_ok hoc [29] [6, 15, 24] [] 60 ?_
  refine ⟨⟨rfl, rfl⟩, fun h => ?_, fun h => bad (fun q => h ((i0 _).mpr q.1))⟩
  refine ⟨⟨rfl, rfl⟩, fun h1 => go ((i0 _).mp h) (Or.inl ((i1 _).mp h1)), fun h1 => ?_⟩
  refine ⟨⟨rfl, rfl⟩, fun h2 => go ((i0 _).mp h) (Or.inr ((i2 _).mp h2)), fun h2 => bad (fun q => q.2.elim (fun q => h1 ((i1 _).mpr q)) (fun q => h2 ((i2 _).mpr q)))⟩
set_option maxHeartbeats 4000000 in
set_option maxRecDepth 100000 in
theorem r_shape (l : Launch) (S : SS) (G0 : List xE) (hG : RInv S G0) (k : Int32) : xM l yX11_shape cX11_shape 18 (some .int) rX11_shape [.ref 0, .int k] G0 (fun r G => r = some (.int (zi (sp_shape S k.toInt))) ∧ RInv S G) := by
  have hG9 := hG
  obtain ⟨pp, av, be, so, ro, tb, gv, sd, gr, row, table, one, two, rfl, hro, hrt, hrv, hrs, hrg, hr1⟩ := hG
  refine xM.of (by decide) (Nat.le_of_ble_eq_true rfl) (fun X hX => ?_)
  have hoc := xoc1 (oSort_ok hX (by decide) hro) (xoc1 (oAtS_ok hX (by decide) hro) xnoc)
  have hN := hro.1
  have i2 : ∀ k : Int32, isS S.1 k (nI 2) ↔ srtI S.1 k.toInt = 2 := fun k => isS_iff hro 2 (by omega)
  have j0 : jr 0 := ⟨by omega, by omega⟩
  refine hX.run (oc := [(164, oSort S.1 so), (156, oAtS S.1 ro)]) kX11_shape_ok ftX11_ok ctX11_ok hoc [11] [6] [] 60 ?_
  refine ⟨⟨rfl, rfl⟩, fun h => ?_, fun h => ?_⟩
  rotate_left
  · have e : sp_shape S k.toInt = -1 := by unfold sp_shape; rw [if_neg (fun q => h ((i2 _).mpr q))]
    rw [e]
    exact ⟨rfl, hG9⟩
  have hk : srtI S.1 k.toInt = 2 := (i2 _).mp h
  obtain ⟨a, ha, ea, ea2⟩ := srtI_nn (s := 2) hk
  have ek := nI_of_int ea (by omega)
  subst ek
  have esp : ∀ t : Int, shp (S.1.2.2 a) = t → sp_shape S (nI a).toInt = t := by
    intro t ht
    unfold sp_shape
    rw [if_pos hk, ea, Int.toNat_natCast, ht]
  have a5 := fun i (hi : i < 6) => hro.bd ha (wid6 ea2 hi)
  have n2 : ab 2 2 := ⟨by omega, by omega⟩
  have n4 : ab 4 4 := ⟨by omega, by omega⟩
  have jD : jr (dshape (S.1.2.2 a)) := ab_jr (ab_add (ab_sub (ab_mul (ab_mul n2 (a5 0 (by omega))) (ab_sub (ab_mul (ab_mul n4 (a5 2 (by omega))) (a5 5 (by omega))) (ab_mul (a5 4 (by omega)) (a5 4 (by omega))))) (ab_mul (a5 1 (by omega)) (ab_sub (ab_mul (ab_mul n2 (a5 1 (by omega))) (a5 5 (by omega))) (ab_mul (a5 4 (by omega)) (a5 3 (by omega)))))) (ab_mul (a5 3 (by omega)) (ab_sub (ab_mul (a5 1 (by omega)) (a5 4 (by omega))) (ab_mul (ab_mul n2 (a5 2 (by omega))) (a5 3 (by omega)))))) (by decide)
  have jB : jr (bshape (S.1.2.2 a)) := ab_jr (ab_sub (ab_mul (ab_mul n4 (a5 0 (by omega))) (a5 2 (by omega))) (ab_mul (a5 1 (by omega)) (a5 1 (by omega)))) (by decide)
  have ja : ∀ i, i < 6 → jr (S.1.2.2 a i) := fun i hi => ab_jr (a5 i hi) (by decide)
  have eD : 2 * zl (S.1.2.2 a 0) * (4 * zl (S.1.2.2 a 2) * zl (S.1.2.2 a 5) - zl (S.1.2.2 a 4) * zl (S.1.2.2 a 4)) - zl (S.1.2.2 a 1) * (2 * zl (S.1.2.2 a 1) * zl (S.1.2.2 a 5) - zl (S.1.2.2 a 4) * zl (S.1.2.2 a 3)) + zl (S.1.2.2 a 3) * (zl (S.1.2.2 a 1) * zl (S.1.2.2 a 4) - 2 * zl (S.1.2.2 a 2) * zl (S.1.2.2 a 3)) = zl (dshape (S.1.2.2 a)) := by
    simp only [show (2 : Int64) = zl 2 from rfl, show (4 : Int64) = zl 4 from rfl, zl_mul, zl_add, zl_sub]
    rfl
  have eB : 4 * zl (S.1.2.2 a 0) * zl (S.1.2.2 a 2) - zl (S.1.2.2 a 1) * zl (S.1.2.2 a 1) = zl (bshape (S.1.2.2 a)) := by
    simp only [show (4 : Int64) = zl 4 from rfl, zl_mul, zl_sub]
    rfl
  have tail190 : shp (S.1.2.2 a) = (if 0 < bshape (S.1.2.2 a) then 3 else if bshape (S.1.2.2 a) = 0 then 4 else 5) → X 190 [some (.ref 0), some (.int (nI a)), some (.long (zl (S.1.2.2 a 0))), none, some (.long (zl (S.1.2.2 a 1))), none, some (.long (zl (S.1.2.2 a 2))), none, some (.long (zl (S.1.2.2 a 3))), none, some (.long (zl (S.1.2.2 a 4))), none, some (.long (zl (S.1.2.2 a 5))), none, some (.long (zl (dshape (S.1.2.2 a)))), none, some (.long (zl (bshape (S.1.2.2 a)))), none] [] (GR (nI S.1.1) (nI S.2.1.1) (nI S.2.2.1.1) (nI S.2.2.2.1.1) (nI S.2.2.2.2.1) pp av be so ro tb gv sd gr row table one two) := by
    intro hs
    refine hX.run (oc := [(164, oSort S.1 so), (156, oAtS S.1 ro)]) kX11_shape_ok ftX11_ok ctX11_ok hoc [] [] [] 60 ?_
    refine ⟨fun h => ?_, fun h => ?_⟩
    · have h1 : zl (bshape (S.1.2.2 a)) ≤ zl 0 := lgc_le.mp h
      rw [zl_le jB j0] at h1
      refine ⟨fun h => ?_, fun h => ?_⟩
      · have h2 : zl (bshape (S.1.2.2 a)) = zl 0 := lgc_eq.mp h
        rw [zl_eq jB j0] at h2
        refine ⟨congrArg (fun z => some (Value.int (zi z))) (esp _ ?_).symm, hG9⟩
        rw [hs, if_neg (by omega), if_pos h2]
      · have h2 : ¬ zl (bshape (S.1.2.2 a)) = zl 0 := fun q => h (lgc_eq.mpr q)
        rw [zl_eq jB j0] at h2
        refine ⟨congrArg (fun z => some (Value.int (zi z))) (esp _ ?_).symm, hG9⟩
        rw [hs, if_neg (by omega), if_neg h2]
    · have h1 : ¬ zl (bshape (S.1.2.2 a)) ≤ zl 0 := fun q => h (lgc_le.mpr q)
      rw [zl_le jB j0] at h1
      refine ⟨congrArg (fun z => some (Value.int (zi z))) (esp _ ?_).symm, hG9⟩
      rw [hs, if_pos (by omega)]
  have tail174 : dshape (S.1.2.2 a) ≠ 0 → ¬ (0 < bshape (S.1.2.2 a) ∧ 0 < S.1.2.2 a 0 * (if 0 < dshape (S.1.2.2 a) then 1 else -1)) → X 174 [some (.ref 0), some (.int (nI a)), some (.long (zl (S.1.2.2 a 0))), none, some (.long (zl (S.1.2.2 a 1))), none, some (.long (zl (S.1.2.2 a 2))), none, some (.long (zl (S.1.2.2 a 3))), none, some (.long (zl (S.1.2.2 a 4))), none, some (.long (zl (S.1.2.2 a 5))), none, some (.long (zl (dshape (S.1.2.2 a)))), none, some (.long (zl (bshape (S.1.2.2 a)))), none] [] (GR (nI S.1.1) (nI S.2.1.1) (nI S.2.2.1.1) (nI S.2.2.2.1.1) (nI S.2.2.2.2.1) pp av be so ro tb gv sd gr row table one two) := by
    intro hD hn
    refine hX.run (oc := [(164, oSort S.1 so), (156, oAtS S.1 ro)]) kX11_shape_ok ftX11_ok ctX11_ok hoc [190] [] [] 60 ?_
    refine ⟨fun h => ?_, fun h => ?_⟩
    · have h1 : zl (S.1.2.2 a 0) = zl (S.1.2.2 a 2) := lgc_eq.mp h
      rw [zl_eq (ja 0 (by omega)) (ja 2 (by omega))] at h1
      refine ⟨fun h => ?_, fun h => ?_⟩
      · have h2 : zl (S.1.2.2 a 1) = zl 0 := lgc_eq.mp h
        rw [zl_eq (ja 1 (by omega)) j0] at h2
        refine ⟨congrArg (fun z => some (Value.int (zi z))) (esp _ ?_).symm, hG9⟩
        unfold shp
        rw [if_neg hD, if_neg hn, if_pos ⟨h1, h2⟩]
      · have h2 : ¬ zl (S.1.2.2 a 1) = zl 0 := fun q => h (lgc_eq.mpr q)
        rw [zl_eq (ja 1 (by omega)) j0] at h2
        refine tail190 ?_
        unfold shp
        rw [if_neg hD, if_neg hn, if_neg (fun q => h2 q.2)]
    · have h1 : ¬ zl (S.1.2.2 a 0) = zl (S.1.2.2 a 2) := fun q => h (lgc_eq.mpr q)
      rw [zl_eq (ja 0 (by omega)) (ja 2 (by omega))] at h1
      refine tail190 ?_
      unfold shp
      rw [if_neg hD, if_neg hn, if_neg (fun q => h1 q.1)]
  have at135 : X 135 [some (.ref 0), some (.int (nI a)), some (.long (zl (S.1.2.2 a 0))), none, some (.long (zl (S.1.2.2 a 1))), none, some (.long (zl (S.1.2.2 a 2))), none, some (.long (zl (S.1.2.2 a 3))), none, some (.long (zl (S.1.2.2 a 4))), none, some (.long (zl (S.1.2.2 a 5))), none, some (.long (zl (dshape (S.1.2.2 a)))), none, some (.long (zl (bshape (S.1.2.2 a)))), none] [] (GR (nI S.1.1) (nI S.2.1.1) (nI S.2.2.1.1) (nI S.2.2.2.1.1) (nI S.2.2.2.2.1) pp av be so ro tb gv sd gr row table one two) := by
    refine hX.run (oc := [(164, oSort S.1 so), (156, oAtS S.1 ro)]) kX11_shape_ok ftX11_ok ctX11_ok hoc [174] [] [] 60 ?_
    refine ⟨fun h => ?_, fun h => ?_⟩
    · have h1 : zl (dshape (S.1.2.2 a)) = zl 0 := lgc_eq.mp h
      rw [zl_eq jD j0] at h1
      refine ⟨congrArg (fun z => some (Value.int (zi z))) (esp _ ?_).symm, hG9⟩
      unfold shp
      rw [if_pos h1]
    · have h1 : ¬ zl (dshape (S.1.2.2 a)) = zl 0 := fun q => h (lgc_eq.mpr q)
      rw [zl_eq jD j0] at h1
      refine ⟨fun h => ?_, fun h => ?_⟩
      · have h2 : zl (bshape (S.1.2.2 a)) ≤ zl 0 := lgc_le.mp h
        rw [zl_le jB j0] at h2
        exact tail174 h1 (fun q => by omega)
      · have h2 : ¬ zl (bshape (S.1.2.2 a)) ≤ zl 0 := fun q => h (lgc_le.mpr q)
        rw [zl_le jB j0] at h2
        have js : ∀ t, t = 1 ∨ t = -1 → jr (S.1.2.2 a 0 * t) := by
          intro t ht
          have := (a5 0 (by omega)).1
          have := (a5 0 (by omega)).2
          rcases ht with rfl | rfl
          · constructor <;> omega
          · constructor <;> omega
        refine ⟨fun h => ?_, fun h => ?_⟩
        · have h3 : zl (dshape (S.1.2.2 a)) ≤ zl 0 := lgc_le.mp h
          rw [zl_le jD j0] at h3
          refine ⟨fun h => ?_, fun h => ?_⟩
          · have h4 : zl (S.1.2.2 a 0) * zl (-1) ≤ zl 0 := lgc_le.mp h
            rw [zl_mul, zl_le (js _ (Or.inr rfl)) j0] at h4
            refine tail174 h1 (fun q => ?_)
            rw [if_neg (by omega)] at q
            omega
          · have h4 : ¬ zl (S.1.2.2 a 0) * zl (-1) ≤ zl 0 := fun q => h (lgc_le.mpr q)
            rw [zl_mul, zl_le (js _ (Or.inr rfl)) j0] at h4
            refine ⟨congrArg (fun z => some (Value.int (zi z))) (esp _ ?_).symm, hG9⟩
            unfold shp
            rw [if_neg h1, if_pos ⟨by omega, by rw [if_neg (by omega)]; omega⟩]
        · have h3 : ¬ zl (dshape (S.1.2.2 a)) ≤ zl 0 := fun q => h (lgc_le.mpr q)
          rw [zl_le jD j0] at h3
          refine ⟨fun h => ?_, fun h => ?_⟩
          · have h4 : zl (S.1.2.2 a 0) * zl 1 ≤ zl 0 := lgc_le.mp h
            rw [zl_mul, zl_le (js _ (Or.inl rfl)) j0] at h4
            refine tail174 h1 (fun q => ?_)
            rw [if_pos (by omega)] at q
            omega
          · have h4 : ¬ zl (S.1.2.2 a 0) * zl 1 ≤ zl 0 := fun q => h (lgc_le.mpr q)
            rw [zl_mul, zl_le (js _ (Or.inl rfl)) j0] at h4
            refine ⟨congrArg (fun z => some (Value.int (zi z))) (esp _ ?_).symm, hG9⟩
            unfold shp
            rw [if_neg h1, if_pos ⟨by omega, by rw [if_pos (by omega)]; omega⟩]
  rw [← eD, ← eB] at at135
  refine hX.run (oc := [(164, oSort S.1 so), (156, oAtS S.1 ro)]) kX11_shape_ok ftX11_ok ctX11_ok hoc [135] [] [] 120 ?_
  refine ⟨rfl, a, rfl, ⟨ha, wid6 ea2 (by decide)⟩, ?_⟩
  refine ⟨rfl, a, rfl, ⟨ha, wid6 ea2 (by decide)⟩, ?_⟩
  refine ⟨rfl, a, rfl, ⟨ha, wid6 ea2 (by decide)⟩, ?_⟩
  refine ⟨rfl, a, rfl, ⟨ha, wid6 ea2 (by decide)⟩, ?_⟩
  refine ⟨rfl, a, rfl, ⟨ha, wid6 ea2 (by decide)⟩, ?_⟩
  refine ⟨rfl, a, rfl, ⟨ha, wid6 ea2 (by decide)⟩, ?_⟩
  exact at135
