/-- the value number t among d whole numbers from z on -/
def vl (x : Nat → Int) : Nat → Int → Nat → Option Int
  | 0, _, _ => none
  | d + 1, z, t => if det9 (lss x z) = 0 then (if t = 0 then some z else vl x d (z + 1) (t - 1)) else vl x d (z + 1) t
def vlI (x : Nat → Int) (k : Int) : Int := if 0 ≤ k then (match vl x 3001 (-1500) k.toNat with | some z => z | none => -9223372036854775808) else -9223372036854775808
theorem rkv_3 {m : Nat → Int} : (rkv m).1 = 3 ↔ det9 m ≠ 0 := by
  unfold rkv
  by_cases h : det9 m ≠ 0
  · rw [if_pos h]; simp [h]
  · rw [if_neg h]
    constructor
    · intro q
      split at q
      · cases q
      · split at q
        · cases q
        · split at q
          · cases q
          · split at q
            · cases q
            · split at q
              · cases q
              · split at q
                · cases q
                · cases q
    · intro q; exact absurd q h
theorem rkv_le (m : Nat → Int) : (rkv m).1 ≤ 3 := by
  unfold rkv
  repeat' split
  all_goals simp
theorem rkv_bd {m : Nat → Int} (h : ∀ i, i < 9 → ab (m i) 2000) (i : Nat) (hi : i < 3) : ab ((rkv m).2 i) 8000000 := by
  have hc := fun r (hr : r < 3) => cr3_bd h r i hr
  have hw : ∀ r, r < 3 → ab (rw3 m r i) 8000000 := fun r hr => ab_le (h (3 * r + i) (by omega)) (by decide)
  have h0 : ab (0 : Int) 8000000 := ⟨by omega, by omega⟩
  unfold rkv
  repeat' split
  · exact h0
  · exact hc 0 (by omega)
  · exact hc 1 (by omega)
  · exact hc 2 (by omega)
  · exact hw 0 (by omega)
  · exact hw 1 (by omega)
  · exact hw 2 (by omega)
  · exact h0
theorem rkv_nz {m : Nat → Int} (h0 : (rkv m).1 ≠ 0) (h3 : (rkv m).1 ≠ 3) (z0 : (rkv m).2 0 = 0) (z1 : (rkv m).2 1 = 0) (z2 : (rkv m).2 2 = 0) : False := by
  have key : ∀ u : Nat → Int, nz3 u = true → u 0 = 0 → u 1 = 0 → u 2 = 0 → False := fun u hu a b c => by rw [nz3_f.mpr ⟨a, b, c⟩] at hu; cases hu
  unfold rkv at h0 h3 z0 z1 z2
  split at z0
  · next h => rw [if_pos h] at h3; exact h3 rfl
  next h =>
  rw [if_neg h] at h0 h3 z1 z2
  split at z0
  · next h => rw [if_pos h] at z1 z2; exact key _ h z0 z1 z2
  next h =>
  rw [if_neg h] at h0 h3 z1 z2
  split at z0
  · next h => rw [if_pos h] at z1 z2; exact key _ h z0 z1 z2
  next h =>
  rw [if_neg h] at h0 h3 z1 z2
  split at z0
  · next h => rw [if_pos h] at z1 z2; exact key _ h z0 z1 z2
  next h =>
  rw [if_neg h] at h0 h3 z1 z2
  split at z0
  · next h => rw [if_pos h] at z1 z2; exact key _ h z0 z1 z2
  next h =>
  rw [if_neg h] at h0 h3 z1 z2
  split at z0
  · next h => rw [if_pos h] at z1 z2; exact key _ h z0 z1 z2
  next h =>
  rw [if_neg h] at h0 h3 z1 z2
  split at z0
  · next h => rw [if_pos h] at z1 z2; exact key _ h z0 z1 z2
  next h =>
  rw [if_neg h] at h0
  exact h0 rfl
set_option maxHeartbeats 4000000 in
set_option maxRecDepth 100000 in
theorem c_value (l : Launch) (n nm ng ns ngr : Int32) (pp av be : Int64) (so ro tb gv sd gr : Nat → Int32) (table : Nat → Int64) (row two : Nat → Int64) (x : Nat → Int) (hx : ∀ i, i < 9 → ab (x i) 500) (k : Int32) : xM l yX11_value cX11_value 5 (some .long) rX11_value [.ref 0, .int k] (GR n nm ng ns ngr pp av be so ro tb gv sd gr row table (fun i => zl (x i)) two) (fun r G => ∃ row' two', r = some (.long (zl (vlI x k.toInt))) ∧ G = GR n nm ng ns ngr pp av be so ro tb gv sd gr row' table (fun i => zl (x i)) two') := by
  refine xM.of (by decide) (Nat.le_of_ble_eq_true rfl) (fun X hX => ?_)
  have main : 0 ≤ k.toInt → ∀ (d : Nat) (z : Int) (t : Nat) (row two : Nat → Int64), z = 1501 - d → d ≤ 3001 → t ≤ 2147483647 → vl x 3001 (-1500) k.toInt.toNat = vl x d z t → X 6 [some (.ref 0), some (.int k), some (.int (nI t)), some (.long (zl z)), none] [] (GR n nm ng ns ngr pp av be so ro tb gv sd gr row table (fun i => zl (x i)) two) := by
    intro hk d
    have hk32 : ¬ k < 0 := by
      rw [Int32.lt_iff_toInt_lt]
      have : (0 : Int32).toInt = 0 := rfl
      omega
    induction d with
    | zero =>
      intro z t row two hz hd ht hv
      refine hX.run (oc := []) kX11_value_ok ftX11_ok ctX11_ok xnoc [] [] [] 40 ?_
      refine ⟨fun _ => ?_, fun h => ?_⟩
      · have e : vlI x k.toInt = -9223372036854775808 := by
          unfold vlI
          rw [if_pos hk, hv]; rfl
        rw [e]
        exact ⟨row, two, rfl, rfl⟩
      · exfalso
        apply h
        apply lgc_gt.mpr
        show zl 1500 < zl z
        rw [zl_lt ⟨by omega, by omega⟩ ⟨by omega, by omega⟩]
        omega
    | succ d ih =>
      intro z t row two hz hd ht hv
      have hz5 : ab z 1500 := ⟨by omega, by omega⟩
      have eadd : zl z + Int64.ofNat ((1 : Fin 2) : Nat) = zl (z + 1) := zl_add z 1
      refine hX.run (oc := []) kX11_value_ok ftX11_ok ctX11_ok xnoc [] [] [] 40 ?_
      refine ⟨fun h => ?_, fun _ => ?_⟩
      · exfalso
        have h1 : zl 1500 < zl z := lgc_gt.mp h
        rw [zl_lt ⟨by omega, by omega⟩ ⟨by omega, by omega⟩] at h1
        omega
      refine ⟨fun h => absurd h hk32, fun _ => ?_⟩
      refine hX.callV0 (rest := []) (c_rank l n nm ng ns ngr pp av be so ro tb gv sd gr row table two x z hx hz5) yX11_rank_ok lkX11_245 ivX11_rank slX11_rank ⟨rfl, rfl, by decide, by decide⟩ (kX11_value_ok.at 24 rfl) rfl rfl (by decide) rfl rfl rfl (fun _ _ q => by obtain ⟨_, -, -, rfl⟩ := q; rfl) (fun r9 G1 q => ?_)
      obtain ⟨row2, rfl, -, rfl⟩ := q
      have hle := rkv_le (lss x z)
      refine hX.run (oc := []) kX11_value_ok ftX11_ok ctX11_ok xnoc [6] [] [] 40 ?_
      refine ⟨fun h => ?_, fun h => ?_⟩
      · have h3 : (rkv (lss x z)).1 = 3 := by
          have h4 : nI 3 ≤ nI (rkv (lss x z)).1 := h
          rw [nI_leI (by omega) (by omega)] at h4
          omega
        have hd0 := rkv_3.mp h3
        have := ih (z + 1) t row2 (fun i => zl (lss x z i)) (by omega) (by omega) ht (by rw [hv, vl, if_neg hd0])
        rw [← eadd] at this
        exact this
      · have h3 : det9 (lss x z) = 0 := by
          apply Classical.byContradiction
          intro q
          apply h
          rw [rkv_3.mpr q]
          exact nI_le (Nat.le_refl 3) (by omega)
        refine ⟨fun h => ?_, fun h => ?_⟩
        · have ht0 : t = 0 := by
            have h4 : nI t = nI 0 := h
            rwa [nI_eq (by omega) (by omega)] at h4
          have e : vlI x k.toInt = z := by
            unfold vlI
            rw [if_pos hk, hv, vl, if_pos h3, if_pos ht0]
          rw [e]
          exact ⟨_, _, rfl, rfl⟩
        · have ht0 : ¬ t = 0 := fun e => h (by rw [e]; rfl)
          have := ih (z + 1) (t - 1) row2 (fun i => zl (lss x z i)) (by omega) (by omega) (by omega) (by rw [hv, vl, if_pos h3, if_neg ht0])
          rw [← eadd] at this
          have et : nI (t - 1) = nI t + Int32.ofInt (-1) := by
            obtain ⟨u, rfl⟩ : ∃ u, t = u + 1 := ⟨t - 1, by omega⟩
            exact (pk_m1 u).symm
          rw [et] at this
          exact this
  refine hX.run (oc := []) kX11_value_ok ftX11_ok ctX11_ok xnoc [6] [] [] 40 ?_
  by_cases hk : 0 ≤ k.toInt
  · have hb := Int32.toInt_lt k
    have := main hk 3001 (-1500) k.toInt.toNat row two (by omega) (by omega) (by omega) rfl
    rw [← nI_of_int (show k.toInt = (k.toInt.toNat : Int) by omega) (by omega)] at this
    exact this
  · have hk32 : k < 0 := by
      rw [Int32.lt_iff_toInt_lt]
      have : (0 : Int32).toInt = 0 := rfl
      omega
    have neg : X 6 [some (.ref 0), some (.int k), some (.int k), some (.long (zl (-1500))), none] [] (GR n nm ng ns ngr pp av be so ro tb gv sd gr row table (fun i => zl (x i)) two) := by
      refine hX.run (oc := []) kX11_value_ok ftX11_ok ctX11_ok xnoc [] [] [] 40 ?_
      refine ⟨fun h => ?_, fun _ => ?_⟩
      · exfalso
        have h1 : zl 1500 < zl (-1500) := lgc_gt.mp h
        rw [zl_lt ⟨by omega, by omega⟩ ⟨by omega, by omega⟩] at h1
        omega
      refine ⟨fun _ => ?_, fun h => absurd hk32 h⟩
      have e : vlI x k.toInt = -9223372036854775808 := by unfold vlI; rw [if_neg hk]
      rw [e]
      exact ⟨row, two, rfl, rfl⟩
    exact neg
def sp_own (S : SS) (m k : Int) : Int := if 0 ≤ m ∧ m < S.2.1.1 then vlI (S.2.1.2 m.toNat) k else -9223372036854775808
def fixv (x : Nat → Int) (z : Int) : Nat × (Nat → Int) := rkv (lss x z)
def sp_fixedO (S : SS) (m k : Int) : Int × SO :=
  if 0 ≤ m ∧ m < S.2.1.1 then
    (if vlI (S.2.1.2 m.toNat) k = -9223372036854775808 then (-2, S.1) else
     if (fixv (S.2.1.2 m.toNat) (vlI (S.2.1.2 m.toNat) k)).1 = 0 then (-3, S.1) else
     addO S.1 (if (fixv (S.2.1.2 m.toNat) (vlI (S.2.1.2 m.toNat) k)).1 = 2 then 0 else 1) 3 (fixv (S.2.1.2 m.toNat) (vlI (S.2.1.2 m.toNat) k)).2)
  else (-1, S.1)
def sp_fixed (S : SS) (m k : Int) : Int × SS := withO (sp_fixedO S m k) S
theorem sp_fixedO_le (S : SS) (m k : Int) : S.1.1 ≤ (sp_fixedO S m k).2.1 := by
  unfold sp_fixedO
  split
  · split
    · exact Nat.le_refl _
    · split
      · exact Nat.le_refl _
      · exact addO_le _ _ _ _
  · exact Nat.le_refl _
theorem vl_in {x : Nat → Int} : ∀ {d : Nat} {z : Int} {t : Nat} {w : Int}, vl x d z t = some w → z ≤ w ∧ w < z + d ∧ det9 (lss x w) = 0
  | 0, z, t, w, h => by simp [vl] at h
  | d + 1, z, t, w, h => by
    unfold vl at h
    split at h
    · next h0 =>
      split at h
      · cases h; exact ⟨by omega, by omega, h0⟩
      · have := vl_in h
        exact ⟨by omega, by omega, this.2.2⟩
    · have := vl_in h
      exact ⟨by omega, by omega, this.2.2⟩
theorem vlI_in {x : Nat → Int} {k : Int} (h : vlI x k ≠ -9223372036854775808) : ab (vlI x k) 1500 ∧ det9 (lss x (vlI x k)) = 0 := by
  unfold vlI at h ⊢
  split at h
  · next hk =>
    rw [if_pos hk]
    cases hv : vl x 3001 (-1500) k.toNat with
    | none => rw [hv] at h; exact absurd rfl h
    | some w =>
      have := vl_in hv
      exact ⟨⟨by show -1500 ≤ w; omega, by show w ≤ 1500; omega⟩, this.2.2⟩
  · exact absurd rfl h
theorem vlI_jr (x : Nat → Int) (k : Int) : vlI x k = -9223372036854775808 ∨ ab (vlI x k) 1500 := by
  by_cases h : vlI x k = -9223372036854775808
  · exact Or.inl h
  · exact Or.inr (vlI_in h).1
set_option maxHeartbeats 4000000 in
set_option maxRecDepth 100000 in
theorem r_own (l : Launch) (S : SS) (G0 : List xE) (hG : RInv S G0) (a0 k : Int32) : xM l yX11_own cX11_own 3 (some .long) rX11_own [.ref 0, .int a0, .int k] G0 (fun r G => r = some (.long (zl (sp_own S a0.toInt k.toInt))) ∧ RInv S G) := by
  have hG9 := hG
  obtain ⟨pp, av, be, so, ro, tb, gv, sd, gr, row, table, one, two, rfl, hro, hrt, hrv, hrs, hrg, hr1⟩ := hG
  refine xM.of (by decide) (Nat.le_of_ble_eq_true rfl) (fun X hX => ?_)
  have hM := hrt.1
  have hoc := xoc1 (oIsMap_ok hX (by decide) hM) xnoc
  have im : ∀ k : Int32, isM S.2.1 k ↔ (0 ≤ k.toInt ∧ k.toInt < S.2.1.1) := fun k => isM_iff (by omega)
  refine hX.run (oc := [(434, oIsMap S.2.1)]) kX11_own_ok ftX11_ok ctX11_ok hoc [12] [5] [] 60 ?_
  refine ⟨rfl, fun h1 => ?_, fun h1 => ?_⟩
  rotate_left
  · have e : sp_own S a0.toInt k.toInt = -9223372036854775808 := by unfold sp_own; rw [if_neg (fun q => h1 ((im _).mpr q))]
    rw [e]
    exact ⟨rfl, hG9⟩
  have g1 := (im _).mp h1
  obtain ⟨a, ha, ea⟩ := h1
  subst ea
  have e1 : (nI a).toInt = (a : Int) := nI_toInt (by omega)
  have esp : sp_own S (nI a).toInt k.toInt = vlI (S.2.1.2 a) k.toInt := by
    unfold sp_own
    rw [if_pos g1, e1]; rfl
  rw [esp] at hX
  refine hX.run (oc := [(434, oIsMap S.2.1)]) kX11_own_ok ftX11_ok ctX11_ok hoc [] [] [] 30 ?_
  refine hX.callV0 (rest := []) (c_bring_one l (nI S.1.1) (nI S.2.2.1.1) (nI S.2.2.2.1.1) (nI S.2.2.2.2.1) pp av be so ro tb gv sd gr row _ _ _ S.2.1 hrt a ha) yX11_bring_ok lkX11_220 ivX11_bring slX11_bring ⟨rfl, rfl, by decide, by decide⟩ (kX11_own_ok.at 18 rfl) rfl rfl (by decide) rfl rfl rfl (fun _ _ q => by rw [q.2]; rfl) (fun r9 G1 q => ?_)
  obtain ⟨rfl, rfl⟩ := q
  refine hX.run (oc := [(434, oIsMap S.2.1)]) kX11_own_ok ftX11_ok ctX11_ok hoc [] [] [] 30 ?_
  refine hX.callV0 (rest := []) (c_value l (nI S.1.1) (nI S.2.1.1) (nI S.2.2.1.1) (nI S.2.2.2.1.1) (nI S.2.2.2.2.1) pp av be so ro tb gv sd gr table row two (S.2.1.2 a) (fun i hi => hrt.bd ha hi) k) yX11_value_ok lkX11_253 ivX11_value slX11_value ⟨rfl, rfl, by decide, by decide⟩ (kX11_own_ok.at 23 rfl) rfl rfl (by decide) rfl rfl rfl (fun _ _ q => by obtain ⟨_, _, -, rfl⟩ := q; rfl) (fun r9 G1 q => ?_)
  obtain ⟨row2, two2, rfl, rfl⟩ := q
  refine hX.run (oc := [(434, oIsMap S.2.1)]) kX11_own_ok ftX11_ok ctX11_ok hoc [] [] [] 30 ?_
  exact ⟨rfl, pp, av, be, so, ro, tb, gv, sd, gr, row2, table, _, two2, rfl, hro, hrt, hrv, hrs, hrg, hr1⟩
set_option maxHeartbeats 4000000 in
set_option maxRecDepth 100000 in
theorem r_fixed (l : Launch) (S : SS) (G0 : List xE) (hG : RInv S G0) (a0 k : Int32) : xM l yX11_fixed cX11_fixed 6 (some .int) rX11_fixed [.ref 0, .int a0, .int k] G0 (fun r G => r = some (.int (zi (sp_fixed S a0.toInt k.toInt).1)) ∧ RInv (sp_fixed S a0.toInt k.toInt).2 G) := by
  have hG9 := hG
  obtain ⟨pp, av, be, so, ro, tb, gv, sd, gr, row, table, one, two, rfl, hro, hrt, hrv, hrs, hrg, hr1⟩ := hG
  refine xM.of (by decide) (Nat.le_of_ble_eq_true rfl) (fun X hX => ?_)
  have hM := hrt.1
  have hoc := xoc1 (oIsMap_ok hX (by decide) hM) xnoc
  have im : ∀ k : Int32, isM S.2.1 k ↔ (0 ≤ k.toInt ∧ k.toInt < S.2.1.1) := fun k => isM_iff (by omega)
  refine hX.run (oc := [(434, oIsMap S.2.1)]) kX11_fixed_ok ftX11_ok ctX11_ok hoc [10] [5] [] 60 ?_
  refine ⟨rfl, fun h1 => ?_, fun h1 => ?_⟩
  rotate_left
  · have e : sp_fixed S a0.toInt k.toInt = (-1, S) := by unfold sp_fixed sp_fixedO; rw [if_neg (fun q => h1 ((im _).mpr q))]; rfl
    rw [e]
    exact ⟨rfl, hG9⟩
  have g1 := (im _).mp h1
  obtain ⟨a, ha, ea⟩ := h1
  subst ea
  have e1 : (nI a).toInt = (a : Int) := nI_toInt (by omega)
  have fin : ∀ {v : Int32} {G : List xE}, (∃ so' ro' row' two', some (Value.int v) = some (.int (zi (sp_fixedO S (nI a).toInt k.toInt).1)) ∧ RO (sp_fixedO S (nI a).toInt k.toInt).2 so' ro' ∧ G = GR (nI (sp_fixedO S (nI a).toInt k.toInt).2.1) (nI S.2.1.1) (nI S.2.2.1.1) (nI S.2.2.2.1.1) (nI S.2.2.2.2.1) pp av be so' ro' tb gv sd gr row' table (fun i => zl (S.2.1.2 a i)) two') → some (Value.int v) = some (.int (zi (sp_fixed S (nI a).toInt k.toInt).1)) ∧ RInv (sp_fixed S (nI a).toInt k.toInt).2 G := by
    rintro v G ⟨so2, ro2, row2, two2, e1, q2, rfl⟩
    exact ⟨e1, pp, av, be, so2, ro2, tb, gv, sd, gr, row2, table, _, two2, rfl, q2, hrt, hrv.more (sp_fixedO_le _ _ _), hrs, hrg, hr1⟩
  have esp : sp_fixedO S (nI a).toInt k.toInt = (if (vlI (S.2.1.2 a) k.toInt) = -9223372036854775808 then (-2, S.1) else if (rkv (lss (S.2.1.2 a) (vlI (S.2.1.2 a) k.toInt))).1 = 0 then (-3, S.1) else addO S.1 (if (rkv (lss (S.2.1.2 a) (vlI (S.2.1.2 a) k.toInt))).1 = 2 then 0 else 1) 3 (rkv (lss (S.2.1.2 a) (vlI (S.2.1.2 a) k.toInt))).2) := by
    unfold sp_fixedO fixv
    rw [if_pos g1, e1]; rfl
  refine hX.run (oc := [(434, oIsMap S.2.1)]) kX11_fixed_ok ftX11_ok ctX11_ok hoc [] [] [] 30 ?_
  refine hX.callV0 (rest := []) (c_bring_one l (nI S.1.1) (nI S.2.2.1.1) (nI S.2.2.2.1.1) (nI S.2.2.2.2.1) pp av be so ro tb gv sd gr row _ _ _ S.2.1 hrt a ha) yX11_bring_ok lkX11_220 ivX11_bring slX11_bring ⟨rfl, rfl, by decide, by decide⟩ (kX11_fixed_ok.at 16 rfl) rfl rfl (by decide) rfl rfl rfl (fun _ _ q => by rw [q.2]; rfl) (fun r9 G1 q => ?_)
  obtain ⟨rfl, rfl⟩ := q
  refine hX.run (oc := [(434, oIsMap S.2.1)]) kX11_fixed_ok ftX11_ok ctX11_ok hoc [] [] [] 30 ?_
  refine hX.callV0 (rest := []) (c_value l (nI S.1.1) (nI S.2.1.1) (nI S.2.2.1.1) (nI S.2.2.2.1.1) (nI S.2.2.2.2.1) pp av be so ro tb gv sd gr table row two (S.2.1.2 a) (fun i hi => hrt.bd ha hi) k) yX11_value_ok lkX11_253 ivX11_value slX11_value ⟨rfl, rfl, by decide, by decide⟩ (kX11_fixed_ok.at 21 rfl) rfl rfl (by decide) rfl rfl rfl (fun _ _ q => by obtain ⟨_, _, -, rfl⟩ := q; rfl) (fun r9 G1 q => ?_)
  obtain ⟨row2, two2, rfl, rfl⟩ := q
  refine hX.run (oc := [(434, oIsMap S.2.1)]) kX11_fixed_ok ftX11_ok ctX11_ok hoc [] [] [] 30 ?_
  refine ⟨fun h => ?_, fun h => ?_⟩
  · have h2 : zl (vlI (S.2.1.2 a) k.toInt) = zl (-9223372036854775808) := lgc_eq.mp h
    have h3 : (vlI (S.2.1.2 a) k.toInt) = -9223372036854775808 := by
      rcases vlI_jr (S.2.1.2 a) k.toInt with q | q
      · exact q
      · exfalso
        have h4 := congrArg Int64.toInt h2
        rw [zl_to (ab_jr q (by decide))] at h4
        have h5 : (zl (-9223372036854775808)).toInt = -9223372036854775808 := by decide
        have := q.1
        omega
    refine fin ?_
    rw [esp, if_pos h3]
    exact ⟨so, ro, row2, two2, rfl, hro, rfl⟩
  have hv : ¬ (vlI (S.2.1.2 a) k.toInt) = -9223372036854775808 := by
    intro q
    apply h
    rw [q]
    rfl
  obtain ⟨hv5, hd0⟩ := vlI_in hv
  have esp2 := esp.trans (if_neg hv)
  refine hX.callV0 (rest := []) (c_rank l (nI S.1.1) (nI S.2.1.1) (nI S.2.2.1.1) (nI S.2.2.2.1.1) (nI S.2.2.2.2.1) pp av be so ro tb gv sd gr row2 table two2 (S.2.1.2 a) (vlI (S.2.1.2 a) k.toInt) (fun i hi => hrt.bd ha hi) hv5) yX11_rank_ok lkX11_245 ivX11_rank slX11_rank ⟨rfl, rfl, by decide, by decide⟩ (kX11_fixed_ok.at 42 rfl) rfl rfl (by decide) rfl rfl rfl (fun _ _ q => by obtain ⟨_, -, -, rfl⟩ := q; rfl) (fun r9 G1 q => ?_)
  obtain ⟨row3, rfl, hrow, rfl⟩ := q
  have hle := rkv_le (lss (S.2.1.2 a) (vlI (S.2.1.2 a) k.toInt))
  have hn3 : (rkv (lss (S.2.1.2 a) (vlI (S.2.1.2 a) k.toInt))).1 ≠ 3 := fun q => rkv_3.mp q hd0
  have hrow2 := hrow hn3
  have m5 := lss_bd (fun i hi => hrt.bd ha hi) hv5
  have jz : ∀ i, i < 3 → jr ((rkv (lss (S.2.1.2 a) (vlI (S.2.1.2 a) k.toInt))).2 i) := fun i hi => ab_jr (rkv_bd m5 i hi) (by decide)
  have ez : ∀ i, i < 3 → (fun i => (row3 i).toInt) i = (rkv (lss (S.2.1.2 a) (vlI (S.2.1.2 a) k.toInt))).2 i := fun i hi => by
    dsimp only
    rw [hrow2 i hi, zl_to (jz i hi)]
  refine hX.run (oc := [(434, oIsMap S.2.1)]) kX11_fixed_ok ftX11_ok ctX11_ok hoc [] [] [] 30 ?_
  refine ⟨fun h => ?_, fun h => ?_⟩
  · have h0 : (rkv (lss (S.2.1.2 a) (vlI (S.2.1.2 a) k.toInt))).1 = 0 := by
      have h4 : nI (rkv (lss (S.2.1.2 a) (vlI (S.2.1.2 a) k.toInt))).1 = nI 0 := h
      rwa [nI_eq (by omega) (by omega)] at h4
    refine fin ?_
    rw [esp2, if_pos h0]
    exact ⟨so, ro, row3, _, rfl, hro, rfl⟩
  have h0 : ¬ (rkv (lss (S.2.1.2 a) (vlI (S.2.1.2 a) k.toInt))).1 = 0 := fun e => h (by rw [e]; rfl)
  have g0 : gN (rkv (lss (S.2.1.2 a) (vlI (S.2.1.2 a) k.toInt))).2 3 ≠ 0 := by
    intro q
    have q2 := gN_zero q
    exact rkv_nz h0 hn3 (q2 0 (by omega)) (q2 1 (by omega)) (q2 2 (by omega))
  rw [if_neg h0] at esp2
  have jz2 : ∀ i, i < 3 → jr ((row3 i).toInt) := fun i hi => by have := ez i hi; dsimp only at this; rw [this]; exact jz i hi
  have g2 : gN (fun i => (row3 i).toInt) 3 ≠ 0 := by rw [gN_congr (w := (rkv (lss (S.2.1.2 a) (vlI (S.2.1.2 a) k.toInt))).2) ez]; exact g0
  have ea : ∀ i, (fun i => zl ((fun i => (row3 i).toInt) i)) i = row3 i := fun i => zl_of _
  have ea2 : (fun i => zl ((fun i => (row3 i).toInt) i)) = row3 := funext ea
  refine ⟨fun h2 => ?_, fun h2 => ?_⟩
  · have h3 : (rkv (lss (S.2.1.2 a) (vlI (S.2.1.2 a) k.toInt))).1 = 2 := by
      have h4 : nI (rkv (lss (S.2.1.2 a) (vlI (S.2.1.2 a) k.toInt))).1 = nI 2 := h2
      rwa [nI_eq (by omega) (by omega)] at h4
    have esp3 : (if (rkv (lss (S.2.1.2 a) (vlI (S.2.1.2 a) k.toInt))).1 = 2 then 0 else 1) = 0 := if_pos h3
    rw [← ea2]
    have hc := c_object l (nI S.2.1.1) (nI S.2.2.1.1) (nI S.2.2.2.1.1) (nI S.2.2.2.2.1) pp av be so ro tb gv sd gr table (fun i => zl (S.2.1.2 a i)) (fun i => zl (lss (S.2.1.2 a) (vlI (S.2.1.2 a) k.toInt) i)) S.1 0 (fun i => (row3 i).toInt) (by omega) hro jz2 g2
    rw [show wid 0 = 3 from rfl, addO_congr (w := (rkv (lss (S.2.1.2 a) (vlI (S.2.1.2 a) k.toInt))).2) ez] at hc
    refine hX.callV0 (rest := []) hc yX11_object_ok lkX11_66 ivX11_object slX11_object ⟨rfl, rfl, by decide, by decide⟩ (kX11_fixed_ok.at 69 rfl) rfl rfl (by decide) rfl rfl rfl (fun _ _ q => by obtain ⟨_, _, _, -, -, rfl⟩ := q; rfl) (fun r9 G1 q => ?_)
    obtain ⟨so2, ro2, row4, rfl, q2, rfl⟩ := q
    refine hX.run (oc := [(434, oIsMap S.2.1)]) kX11_fixed_ok ftX11_ok ctX11_ok hoc [] [] [] 20 ?_
    refine fin ?_
    rw [esp2, esp3]
    exact ⟨so2, ro2, row4, _, rfl, q2, rfl⟩
  · have h3 : ¬ (rkv (lss (S.2.1.2 a) (vlI (S.2.1.2 a) k.toInt))).1 = 2 := fun e => h2 (by rw [e]; rfl)
    have esp3 : (if (rkv (lss (S.2.1.2 a) (vlI (S.2.1.2 a) k.toInt))).1 = 2 then 0 else 1) = 1 := if_neg h3
    rw [← ea2]
    have hc := c_object l (nI S.2.1.1) (nI S.2.2.1.1) (nI S.2.2.2.1.1) (nI S.2.2.2.2.1) pp av be so ro tb gv sd gr table (fun i => zl (S.2.1.2 a i)) (fun i => zl (lss (S.2.1.2 a) (vlI (S.2.1.2 a) k.toInt) i)) S.1 1 (fun i => (row3 i).toInt) (by omega) hro jz2 g2
    rw [show wid 1 = 3 from rfl, addO_congr (w := (rkv (lss (S.2.1.2 a) (vlI (S.2.1.2 a) k.toInt))).2) ez] at hc
    refine hX.callV0 (rest := []) hc yX11_object_ok lkX11_66 ivX11_object slX11_object ⟨rfl, rfl, by decide, by decide⟩ (kX11_fixed_ok.at 69 rfl) rfl rfl (by decide) rfl rfl rfl (fun _ _ q => by obtain ⟨_, _, _, -, -, rfl⟩ := q; rfl) (fun r9 G1 q => ?_)
    obtain ⟨so2, ro2, row4, rfl, q2, rfl⟩ := q
    refine hX.run (oc := [(434, oIsMap S.2.1)]) kX11_fixed_ok ftX11_ok ctX11_ok hoc [] [] [] 20 ?_
    refine fin ?_
    rw [esp2, esp3]
    exact ⟨so2, ro2, row4, _, rfl, q2, rfl⟩
