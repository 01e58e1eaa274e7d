def srtI (S : SO) (k : Int) : Int := if 0 ≤ k ∧ k < S.1 then (S.2.1 k.toNat : Int) else -1
theorem srtI_of {S : SO} {j : Nat} (h : j < S.1) : srtI S j = (S.2.1 j : Int) := by
  unfold srtI
  rw [if_pos ⟨by omega, by omega⟩, Int.toNat_natCast]
theorem srtI_nn {S : SO} {k : Int} {s : Nat} (h : srtI S k = s) : ∃ j : Nat, j < S.1 ∧ k = j ∧ S.2.1 j = s := by
  unfold srtI at h
  split at h
  · next hk => exact ⟨k.toNat, by omega, by omega, by omega⟩
  · omega
theorem isS_iff {S : SO} {so ro : Nat → Int32} (hS : RO S so ro) {k : Int32} (s : Nat) (hs : s ≤ 2) : isS S k (nI s) ↔ srtI S k.toInt = s := by
  have hN := hS.1
  constructor
  · rintro ⟨j, h1, rfl, h2⟩
    rw [nI_toInt (by omega), srtI_of h1]
    have := (hS.2.1 j h1).2
    rw [nI_eq (by omega) (by omega)] at h2
    omega
  · intro h
    obtain ⟨j, h1, h2, h3⟩ := srtI_nn h
    refine ⟨j, h1, ?_, by rw [h3]⟩
    apply Int32.toInt_inj.mp
    rw [h2, nI_toInt (by omega)]
/-- two objects of one sort aren't one: their rows are apart -/
def apartO (S : SO) : Prop := ∀ a b, a < S.1 → b < S.1 → a ≠ b → S.2.1 a = S.2.1 b → S.2.1 a ≤ 1 → ∃ i, i < 3 ∧ crs (S.2.2 a) (S.2.2 b) i ≠ 0
def sp_joinO (S : SO) (p q : Int) : Int × SO := if (srtI S p = 0 ∧ srtI S q = 0) ∨ (srtI S p = 1 ∧ srtI S q = 1) then (if p = q then (-3, S) else addO S (if srtI S p = 0 then 1 else 0) 3 (crs (S.2.2 p.toNat) (S.2.2 q.toNat))) else (-1, S)
def sp_join (S : SS) (p q : Int) : Int × SS := withO (sp_joinO S.1 p q) S
theorem sp_joinO_le (S : SO) (p q : Int) : S.1 ≤ (sp_joinO S p q).2.1 := by
  unfold sp_joinO
  split
  · split
    · exact Nat.le_refl _
    · exact addO_le _ _ _ _
  · exact Nat.le_refl _
set_option maxHeartbeats 4000000 in
set_option maxRecDepth 100000 in
theorem r_join (l : Launch) (S : SS) (G0 : List xE) (hG : RInv S G0) (hap : apartO S.1) (p q : Int32) : xM l yX11_join cX11_join 3 (some .int) rX11_join [.ref 0, .int p, .int q] G0 (fun r G => r = some (.int (zi (sp_join S p.toInt q.toInt).1)) ∧ RInv (sp_join S p.toInt q.toInt).2 G) := by
  obtain ⟨pp, ab, be, so, ro, tb, gv, sd, gr, row, table, one, two, rfl, hro, hrt, hrv, hrs, hrg, hr1⟩ := hG
  refine xM.of (by decide) (Nat.le_of_ble_eq_true rfl) (fun X hX => ?_)
  have hoc := xoc1 (oSort_ok hX (by decide) hro) xnoc
  have hN := hro.1
  have fin : ∀ {v : Int32} {G : List xE}, (∃ so' ro' row', some (Value.int v) = some (.int (zi (sp_joinO S.1 p.toInt q.toInt).1)) ∧ RO (sp_joinO S.1 p.toInt q.toInt).2 so' ro' ∧ G = GR (nI (sp_joinO S.1 p.toInt q.toInt).2.1) (nI S.2.1.1) (nI S.2.2.1.1) (nI S.2.2.2.1.1) (nI S.2.2.2.2.1) pp ab be so' ro' tb gv sd gr row' table one two) → some (Value.int v) = some (.int (zi (sp_join S p.toInt q.toInt).1)) ∧ RInv (sp_join S p.toInt q.toInt).2 G := by
    rintro v G ⟨so2, ro2, row2, e1, q2, rfl⟩
    exact ⟨e1, pp, ab, be, so2, ro2, tb, gv, sd, gr, row2, table, one, two, rfl, q2, hrt, hrv.more (sp_joinO_le _ _ _), hrs, hrg, hr1⟩
  have go : (srtI S.1 p.toInt = 0 ∧ srtI S.1 q.toInt = 0) ∨ (srtI S.1 p.toInt = 1 ∧ srtI S.1 q.toInt = 1) → X 38 [some (.ref 0), some (.int p), some (.int q)] [] (GR (nI S.1.1) (nI S.2.1.1) (nI S.2.2.1.1) (nI S.2.2.2.1.1) (nI S.2.2.2.2.1) pp ab be so ro tb gv sd gr row table one two) := by
    intro hor
    have hpq : ∃ a b : Nat, a < S.1.1 ∧ b < S.1.1 ∧ p.toInt = a ∧ q.toInt = b ∧ S.1.2.1 a = S.1.2.1 b ∧ S.1.2.1 a ≤ 1 := by
      rcases hor with ⟨h1, h2⟩ | ⟨h1, h2⟩
      · obtain ⟨a, a1, a2, a3⟩ := srtI_nn (s := 0) h1
        obtain ⟨b, b1, b2, b3⟩ := srtI_nn (s := 0) h2
        exact ⟨a, b, a1, b1, a2, b2, by omega, by omega⟩
      · obtain ⟨a, a1, a2, a3⟩ := srtI_nn (s := 1) h1
        obtain ⟨b, b1, b2, b3⟩ := srtI_nn (s := 1) h2
        exact ⟨a, b, a1, b1, a2, b2, by omega, by omega⟩
    obtain ⟨a, b, ha, hb, ea, eb, hab, ha1⟩ := hpq
    have ea2 : p = nI a := Int32.toInt_inj.mp (by rw [ea, nI_toInt (by omega)])
    have eb2 : q = nI b := Int32.toInt_inj.mp (by rw [eb, nI_toInt (by omega)])
    subst ea2
    subst eb2
    refine hX.run (oc := [(164, oSort S.1 so)]) kX11_join_ok ftX11_ok ctX11_ok hoc [] [] [] 20 ?_
    refine ⟨fun h => ?_, fun h => ?_⟩
    · have hab2 : a = b := (nI_eq (by omega) (by omega)).mp h
      refine fin ?_
      have e : sp_joinO S.1 (nI a).toInt (nI b).toInt = (-3, S.1) := by unfold sp_joinO; rw [if_pos hor, if_pos (by rw [hab2])]
      rw [e]
      exact ⟨so, ro, row, rfl, hro, rfl⟩
    · have hab2 : ¬ a = b := fun e => h (by rw [e])
      have esp : ∀ s : Nat, (if S.1.2.1 a = 0 then 1 else 0) = s → sp_joinO S.1 (nI a).toInt (nI b).toInt = addO S.1 s 3 (crs (S.1.2.2 a) (S.1.2.2 b)) := by
        intro s hs
        unfold sp_joinO
        rw [if_pos hor, if_neg (by omega), ea, eb, srtI_of ha, Int.toNat_natCast, Int.toNat_natCast, ← hs]
        congr 1
        by_cases h0 : S.1.2.1 a = 0
        · rw [if_pos h0, if_pos (by omega)]
        · rw [if_neg h0, if_neg (by omega)]
      have ez : ∀ i, i < 3 → (fun i => if i < 3 then crs (S.1.2.2 a) (S.1.2.2 b) i else (row i).toInt) i = crs (S.1.2.2 a) (S.1.2.2 b) i := fun i hi => if_pos hi
      have jz : ∀ i, i < 3 → jr ((fun i => if i < 3 then crs (S.1.2.2 a) (S.1.2.2 b) i else (row i).toInt) i) := fun i hi => by rw [ez i hi]; exact ab_jr (hro.crs ha hb i) (by omega)
      have g0 : gN (fun i => if i < 3 then crs (S.1.2.2 a) (S.1.2.2 b) i else (row i).toInt) 3 ≠ 0 := by
        intro h0
        obtain ⟨i, h1, h2⟩ := hap a b ha hb hab2 hab ha1
        have := gN_zero h0 i h1
        exact h2 ((ez i h1).symm.trans this)
      refine hX.callV0 (c_crossOf l (nI S.2.1.1) (nI S.2.2.1.1) (nI S.2.2.2.1.1) (nI S.2.2.2.2.1) pp ab be so ro tb gv sd gr row table one two S.1 hro a b ha hb) yX11_crossOf_ok lkX11_86 ivX11_crossOf slX11_crossOf ⟨rfl, rfl, by decide, by decide⟩ (kX11_join_ok.at 49 rfl) rfl rfl (by decide) rfl rfl rfl (fun _ _ q => by rw [q.2]; rfl) (fun r9 G1 q => ?_)
      obtain ⟨rfl, rfl⟩ := q
      refine hX.run (oc := [(164, oSort S.1 so)]) kX11_join_ok ftX11_ok ctX11_ok hoc [] [] [58] 20 ?_
      refine ⟨a, rfl, by omega, by omega, ?_⟩
      have s1 := (hro.2.1 a ha).1
      refine ⟨fun h0 => ?_, fun h0 => ?_⟩
      · have h1 : S.1.2.1 a = 0 := by
          have h2 : so a = nI 0 := h0
          rwa [s1, nI_eq (by omega) (by omega)] at h2
        rw [h1] at esp
        have hc := c_object l (nI S.2.1.1) (nI S.2.2.1.1) (nI S.2.2.2.1.1) (nI S.2.2.2.2.1) pp ab be so ro tb gv sd gr table one two S.1 1 (fun i => if i < 3 then crs (S.1.2.2 a) (S.1.2.2 b) i else (row i).toInt) (by omega) hro jz g0
        rw [show wid 1 = 3 from rfl, addO_congr (w := crs (S.1.2.2 a) (S.1.2.2 b)) ez] at hc
        refine hX.callV0 (rest := []) hc yX11_object_ok lkX11_66 ivX11_object slX11_object ⟨rfl, rfl, by decide, by decide⟩ (kX11_join_ok.at 67 rfl) rfl rfl (by decide) rfl rfl rfl (fun _ _ q => by obtain ⟨_, _, _, -, -, rfl⟩ := q; rfl) (fun r9 G1 q => ?_)
        obtain ⟨so2, ro2, row2, rfl, q2, rfl⟩ := q
        refine hX.run (oc := [(164, oSort S.1 so)]) kX11_join_ok ftX11_ok ctX11_ok hoc [] [] [] 10 ?_
        refine fin ?_
        rw [esp 1 rfl]
        exact ⟨so2, ro2, row2, rfl, q2, rfl⟩
      · have h1 : ¬ S.1.2.1 a = 0 := fun e => h0 (by rw [s1, e]; rfl)
        rw [if_neg h1] at esp
        have hc := c_object l (nI S.2.1.1) (nI S.2.2.1.1) (nI S.2.2.2.1.1) (nI S.2.2.2.2.1) pp ab be so ro tb gv sd gr table one two S.1 0 (fun i => if i < 3 then crs (S.1.2.2 a) (S.1.2.2 b) i else (row i).toInt) (by omega) hro jz g0
        rw [show wid 0 = 3 from rfl, addO_congr (w := crs (S.1.2.2 a) (S.1.2.2 b)) ez] at hc
        refine hX.callV0 (rest := []) hc yX11_object_ok lkX11_66 ivX11_object slX11_object ⟨rfl, rfl, by decide, by decide⟩ (kX11_join_ok.at 67 rfl) rfl rfl (by decide) rfl rfl rfl (fun _ _ q => by obtain ⟨_, _, _, -, -, rfl⟩ := q; rfl) (fun r9 G1 q => ?_)
        obtain ⟨so2, ro2, row2, rfl, q2, rfl⟩ := q
        refine hX.run (oc := [(164, oSort S.1 so)]) kX11_join_ok ftX11_ok ctX11_ok hoc [] [] [] 10 ?_
        refine fin ?_
        rw [esp 0 rfl]
        exact ⟨so2, ro2, row2, rfl, q2, rfl⟩
  have i0 := fun k : Int32 => isS_iff hro (k := k) 0 (by omega)
  have i1 := fun k : Int32 => isS_iff hro (k := k) 1 (by omega)
  have t18 : ¬ (srtI S.1 p.toInt = 0 ∧ srtI S.1 q.toInt = 0) → X 18 [some (.ref 0), some (.int p), some (.int q)] [] (GR (nI S.1.1) (nI S.2.1.1) (nI S.2.2.1.1) (nI S.2.2.2.1.1) (nI S.2.2.2.2.1) pp ab be so ro tb gv sd gr row table one two) := by
    intro hn
    have bad : ¬ (srtI S.1 p.toInt = 1 ∧ srtI S.1 q.toInt = 1) → ∃ so' ro' row', some (Value.int (Int32.ofInt (-1))) = some (.int (zi (sp_joinO S.1 p.toInt q.toInt).1)) ∧ RO (sp_joinO S.1 p.toInt q.toInt).2 so' ro' ∧ (GR (nI S.1.1) (nI S.2.1.1) (nI S.2.2.1.1) (nI S.2.2.2.1.1) (nI S.2.2.2.2.1) pp ab be so ro tb gv sd gr row table one two) = GR (nI (sp_joinO S.1 p.toInt q.toInt).2.1) (nI S.2.1.1) (nI S.2.2.1.1) (nI S.2.2.2.1.1) (nI S.2.2.2.2.1) pp ab be so' ro' tb gv sd gr row' table one two := by
      intro h2
      have e : sp_joinO S.1 p.toInt q.toInt = (-1, S.1) := by
        unfold sp_joinO
        rw [if_neg (fun q => q.elim hn h2)]
      rw [e]
      exact ⟨so, ro, row, rfl, hro, rfl⟩
    refine hX.run (oc := [(164, oSort S.1 so)]) kX11_join_ok ftX11_ok ctX11_ok hoc [38] [24, 33] [] 30 ?_
    refine ⟨⟨rfl, rfl⟩, fun h => ?_, fun h => fin (bad (fun q => h ((i1 _).mpr q.1)))⟩
    refine ⟨⟨rfl, rfl⟩, fun h2 => ?_, fun h2 => fin (bad (fun q => h2 ((i1 _).mpr q.2)))⟩
    exact go (Or.inr ⟨(i1 _).mp h, (i1 _).mp h2⟩)
  refine hX.run (oc := [(164, oSort S.1 so)]) kX11_join_ok ftX11_ok ctX11_ok hoc [18, 38] [6, 15] [] 30 ?_
  refine ⟨⟨rfl, rfl⟩, fun h => ?_, fun h => t18 (fun q => h ((i0 _).mpr q.1))⟩
  refine ⟨⟨rfl, rfl⟩, fun h2 => ?_, fun h2 => t18 (fun q => h2 ((i0 _).mpr q.2))⟩
  exact go (Or.inl ⟨(i0 _).mp h, (i0 _).mp h2⟩)
