theorem gN_dvd {z : Nat → Int} : ∀ {n i : Nat}, i < n → ((gN z n : Nat) : Int) ∣ z i
  | 0, i, h => by omega
  | n + 1, i, h => by
    have e : gN z (n + 1) = Int.gcd (gN z n) (z n) := rfl
    rw [e]
    by_cases hi : i = n
    · subst hi
      exact Int.gcd_dvd_right ..
    · exact Int.dvd_trans (Int.gcd_dvd_left ..) (gN_dvd (by omega))
theorem lst_mul {z : Nat → Int} {n i : Nat} (hi : i < n) : z i = ((gN z n : Nat) : Int) * sN z n * lst z n i := by
  obtain ⟨c, hc⟩ := gN_dvd (z := z) hi
  unfold lst
  by_cases h0 : ((gN z n : Nat) : Int) = 0
  · rw [h0] at hc ⊢
    simp at hc ⊢
    exact hc
  · have e : (z i).tdiv ((gN z n : Nat) : Int) = c := by rw [hc]; exact Int.mul_tdiv_cancel_left c h0
    rw [e]
    rcases sN_or z n with h | h <;> rw [h]
    · rw [hc]; grind
    · rw [hc]; grind
theorem det9_congr {z w : Nat → Int} (h : ∀ i, i < 9 → z i = w i) : det9 z = det9 w := by
  unfold det9
  rw [h 0 (by omega), h 1 (by omega), h 2 (by omega), h 3 (by omega), h 4 (by omega), h 5 (by omega), h 6 (by omega), h 7 (by omega), h 8 (by omega)]
theorem det9_scale (c : Int) (w : Nat → Int) : det9 (fun i => c * w i) = c * c * c * det9 w := by
  unfold det9
  dsimp only
  grind
theorem lrow_lt {z : Nat → Int} {n i : Nat} (hi : i < n) : lrow z n i = lst z n i := by unfold lrow; rw [if_pos hi]
theorem lrow_det {z : Nat → Int} (h : det9 z ≠ 0) : det9 (lrow z 9) ≠ 0 := by
  intro q
  apply h
  have e : ∀ i, i < 9 → z i = (fun i => ((gN z 9 : Nat) : Int) * sN z 9 * lrow z 9 i) i := fun i hi => by
    dsimp only
    rw [lrow_lt hi]
    exact lst_mul hi
  rw [det9_congr e, det9_scale, q]
  simp
theorem lrow_bd {z : Nat → Int} (h : fit z 9 9 = true) (i : Nat) (hi : i < 9) : ab (lrow z 9 i) 500 := by
  rw [lrow_lt hi]
  exact fit_le h i hi
/-- how often it must be done -/
def ordv (x : Nat → Int) : Nat → Nat → (Nat → Int) → Nat
  | 0, _, _ => 0
  | d + 1, n, t => if all9 t then n else if fit (mul9 x t) 9 9 then ordv x d (n + 1) (lrow (mul9 x t) 9) else 0
def sp_order (S : SS) (m k : Int) : Int := if 0 ≤ m ∧ m < S.2.1.1 then (if 1 ≤ k ∧ k ≤ 60 then (ordv (S.2.1.2 m.toNat) k.toNat 1 (S.2.1.2 m.toNat) : Int) else -2) else -1
def gr1 (M : SM) (sv : Nat → Nat) (most k : Nat) : Nat → Nat → SM → Option Int × SM
  | 0, _, P => (none, P)
  | d + 1, s, P => if fit (mul9 (M.2 (sv s)) (P.2 k)) 9 9 then (if 0 ≤ fndP P (lrow (mul9 (M.2 (sv s)) (P.2 k)) 9) then gr1 M sv most k d (s + 1) P else if P.1 = most then (some 0, P) else gr1 M sv most k d (s + 1) (P.1 + 1, fun j => if j = P.1 then lrow (mul9 (M.2 (sv s)) (P.2 k)) 9 else P.2 j)) else (some (-4), P)
def gr2 (M : SM) (sv : Nat → Nat) (most ns : Nat) : Nat → Nat → SM → Int × SM
  | 0, _, P => ((P.1 : Int), P)
  | f + 1, k, P => if k < P.1 then (match gr1 M sv most k ns 0 P with
    | (some r, P') => (r, P')
    | (none, P') => gr2 M sv most ns f (k + 1) P') else ((P.1 : Int), P)
def sp_group (S : SS) (k : Int) : Int × SS := if 1 ≤ k ∧ k ≤ 48 then ((gr2 S.2.1 S.2.2.2.1.2 k.toNat S.2.2.2.1.1 49 0 (1, S.2.2.2.2.2)).1, (S.1, S.2.1, S.2.2.1, (0, S.2.2.2.1.2), (gr2 S.2.1 S.2.2.2.1.2 k.toNat S.2.2.2.1.1 49 0 (1, S.2.2.2.2.2)).2)) else (-2, S)
set_option maxHeartbeats 4000000 in
set_option maxRecDepth 100000 in
theorem r_order (l : Launch) (S : SS) (G0 : List xE) (hG : RInv S G0) (hgood : goodM S.2.1) (a0 m0 : Int32) : xM l yX11_order cX11_order 5 (some .int) rX11_order [.ref 0, .int a0, .int m0] G0 (fun r G => r = some (.int (zi (sp_order S a0.toInt m0.toInt))) ∧ RInv S G) := by
  have hG9 := hG
  obtain ⟨pp, av, be, so, ro, tb, gv, sd, gr, row, table, one, two, rfl, hro, hrt, hrv, hrs, hrg, hr1⟩ := hG
  refine xM.of (by decide) (Nat.le_of_ble_eq_true rfl) (fun X hX => ?_)
  have hM := hrt.1
  have hoc := xoc1 (oIsMap_ok hX (by decide) hM) (xoc1 (oIn_ok hX (by decide)) xnoc)
  have im : ∀ k : Int32, isM S.2.1 k ↔ (0 ≤ k.toInt ∧ k.toInt < S.2.1.1) := fun k => isM_iff (by omega)
  refine hX.run (oc := [(434, oIsMap S.2.1), (125, oIn)]) kX11_order_ok ftX11_ok ctX11_ok hoc [25] [5, 19] [] 60 ?_
  refine ⟨rfl, fun h1 => ?_, fun h1 => ?_⟩
  rotate_left
  · have e : sp_order S a0.toInt m0.toInt = -1 := by unfold sp_order; rw [if_neg (fun q => h1 ((im _).mpr q))]
    rw [e]
    exact ⟨rfl, hG9⟩
  have g1 := (im _).mp h1
  have inq : ((Int64.ofNat ((1 : Fin 2) : Nat)) ≤ m0.toInt64 ∧ m0.toInt64 ≤ 60) ↔ (1 ≤ m0.toInt ∧ m0.toInt ≤ 60) := by
    have e1 : (Int64.ofNat ((1 : Fin 2) : Nat)) = zl 1 := rfl
    have e2 : (60 : Int64) = zl 60 := rfl
    rw [e1, e2, i64, zl_le ⟨by omega, by omega⟩ (i32_jr m0), zl_le (i32_jr m0) ⟨by omega, by omega⟩]
  refine ⟨fun h2 => ?_, fun h2 => ?_⟩
  rotate_left
  · have e : sp_order S a0.toInt m0.toInt = -2 := by unfold sp_order; rw [if_pos g1, if_neg (fun q => h2 (inq.mpr q))]
    rw [e]
    exact ⟨rfl, hG9⟩
  have g2 := inq.mp h2
  obtain ⟨mo, rfl, hmo⟩ : ∃ mo : Nat, m0 = nI mo ∧ m0.toInt = mo := ⟨m0.toInt.toNat, nI_of_int (by omega) (by omega), by omega⟩
  obtain ⟨a, ha, ea⟩ := h1
  subst ea
  have e1 : (nI a).toInt = (a : Int) := nI_toInt (by omega)
  have esp : sp_order S (nI a).toInt (nI mo).toInt = (ordv (S.2.1.2 a) mo 1 (S.2.1.2 a) : Int) := by
    unfold sp_order
    rw [if_pos g1, if_pos g2, e1, hmo]; rfl
  have hx : ∀ i, i < 9 → ab ((S.2.1.2 a) i) 500 := fun i hi => hrt.bd ha hi
  have fin : ∀ (k : Nat) (table two : Nat → Int64), ordv (S.2.1.2 a) mo 1 (S.2.1.2 a) = k → some (Value.int (nI k)) = some (.int (zi (sp_order S (nI a).toInt (nI mo).toInt))) ∧ RInv S (GR (nI S.1.1) (nI S.2.1.1) (nI S.2.2.1.1) (nI S.2.2.2.1.1) (nI S.2.2.2.2.1) pp av be so ro tb gv sd gr row table (fun i => zl ((S.2.1.2 a) i)) two) := by
    intro k table two h
    rw [esp, h, zi_nI]
    exact ⟨rfl, pp, av, be, so, ro, tb, gv, sd, gr, row, table, _, two, rfl, hro, hrt, hrv, hrs, hrg, hr1⟩
  have main : ∀ (d k : Nat) (t : Nat → Int) (two : Nat → Int64), d + k = mo + 1 → (∀ i, i < 9 → ab (t i) 500) → det9 t ≠ 0 → ordv (S.2.1.2 a) mo 1 (S.2.1.2 a) = ordv (S.2.1.2 a) d k t → X 45 [some (.ref 0), some (.int (nI a)), some (.int (nI mo)), some (.int (nI k)), none] [] (GR (nI S.1.1) (nI S.2.1.1) (nI S.2.2.1.1) (nI S.2.2.2.1.1) (nI S.2.2.2.2.1) pp av be so ro tb gv sd gr row (fun i => zl (t i)) (fun i => zl (S.2.1.2 a i)) (two)) := by
    intro d
    induction d with
    | zero =>
      intro k t two hk ht hd hv
      refine hX.run (oc := [(434, oIsMap S.2.1), (125, oIn)]) kX11_order_ok ftX11_ok ctX11_ok hoc [] [] [] 60 ?_
      refine ⟨fun _ => fin 0 _ _ hv, fun h => absurd (nI_lt (by omega) (by omega)) h⟩
    | succ d ih =>
      intro k t two hk ht hd hv
      refine hX.run (oc := [(434, oIsMap S.2.1), (125, oIn)]) kX11_order_ok ftX11_ok ctX11_ok hoc [] [] [] 60 ?_
      refine ⟨fun h => absurd h (nI_nlt (by omega) (by omega)), fun _ => ?_⟩
      refine hX.callV [8, 0] [] (c_isAll l t (fun i hi => ab_jr (ht i hi) (by decide))) yX11_isAll_ok lkX11_232 ivX11_isAll slX11_isAll ⟨rfl, rfl, by decide, by decide⟩ (kX11_order_ok.at 55 rfl) rfl rfl (by decide) rfl rfl rfl ⟨rfl, trivial⟩ rfl (fun _ _ q => by rw [q.2]) (fun r9 G1 q => ?_)
      obtain ⟨⟨q1, q2⟩, rfl⟩ := q
      by_cases hc : all9 t
      · rw [q1 hc]
        refine hX.run (oc := [(434, oIsMap S.2.1), (125, oIn)]) kX11_order_ok ftX11_ok ctX11_ok hoc [] [58] [] 60 ?_
        exact fin k _ _ (by rw [hv, ordv, if_pos hc])
      rw [q2 hc]
      refine hX.run (oc := [(434, oIsMap S.2.1), (125, oIn)]) kX11_order_ok ftX11_ok ctX11_ok hoc [] [58] [] 60 ?_
      refine hX.callS [9, 8, 10] [] (c_times l (S.2.1.2 a) t two) yX11_times_ok lkX11_128 ssX11_times ⟨rfl, rfl, by decide, by decide⟩ (kX11_order_ok.at 75 rfl) rfl rfl (by decide) ⟨rfl, rfl, rfl, trivial⟩ rfl (fun _ _ q => by rw [q.2]; rfl) (fun r9 G1 q => ?_)
      obtain ⟨rfl, rfl⟩ := q
      have hd2 : det9 (mul9 (S.2.1.2 a) t) ≠ 0 := by
        rw [tdet]
        exact Int.mul_ne_zero (hgood a ha) hd
      refine hX.run (oc := [(434, oIsMap S.2.1), (125, oIn)]) kX11_order_ok ftX11_ok ctX11_ok hoc [108] [85] [] 300 ?_
      refine hX.alike (G2 := GR (nI S.1.1) (nI S.2.1.1) (nI S.2.2.1.1) (nI S.2.2.2.1.1) (nI S.2.2.2.2.1) pp av be so ro tb gv sd gr row (fun i => zl (mul9 (S.2.1.2 a) t i)) (fun i => zl (S.2.1.2 a i)) (fun i => zl (mul9 (S.2.1.2 a) t i))) ?_ ⟨xsame_rf _, xsame_rf _, xsame_rf _, xsame_rf _, xsame_rf _, xsame_rf _, xsame_rf _, xsame_rf _, ⟨rfl, fun i hi => ?_⟩, xsame_rf _, xsame_rf _, trivial⟩
      rotate_left
      · unfold vp_updL
        dsimp only
        rcases (show i = 0 ∨ i = 1 ∨ i = 2 ∨ i = 3 ∨ i = 4 ∨ i = 5 ∨ i = 6 ∨ i = 7 ∨ i = 8 by omega) with rfl | rfl | rfl | rfl | rfl | rfl | rfl | rfl | rfl <;> rfl
      refine hX.run (oc := [(434, oIsMap S.2.1), (125, oIn)]) kX11_order_ok ftX11_ok ctX11_ok hoc [] [] [] 60 ?_
      refine hX.callV [8, 0] [] (c_least l 9 9 (by omega) (by omega) (mul9 (S.2.1.2 a) t) (fun i hi => ab_jr (mul9_bd hx ht i hi) (by decide)) (det_ne hd2)) yX11_least_ok lkX11_58 ivX11_least slX11_least ⟨rfl, rfl, by decide, by decide⟩ (kX11_order_ok.at 115 rfl) rfl rfl (by decide) rfl rfl rfl ⟨rfl, trivial⟩ rfl (fun _ _ q => by rw [q.2]; rfl) (fun r G1 q => ?_)
      obtain ⟨rfl, rfl⟩ := q
      refine hX.run (oc := [(434, oIsMap S.2.1), (125, oIn)]) kX11_order_ok ftX11_ok ctX11_ok hoc [45] [] [] 60 ?_
      refine ⟨fun h => ?_, fun h => ?_⟩
      · have hf := bI_0.mp h
        exact fin 0 _ _ (by rw [hv, ordv, if_neg hc, if_neg (by rw [hf]; decide)])
      · have hf : fit (mul9 (S.2.1.2 a) t) 9 9 = true := by
          cases hbb : fit (mul9 (S.2.1.2 a) t) 9 9 with
          | true => rfl
          | false => exact absurd (bI_0.mpr hbb) h
        have := ih (k + 1) (lrow (mul9 (S.2.1.2 a) t) 9) (fun i => zl (mul9 (S.2.1.2 a) t i)) (by omega) (lrow_bd hf) (lrow_det hd2) (by rw [hv, ordv, if_neg hc, if_pos hf])
        rw [← nI_1] at this
        refine hX.alike (hX.less this ⟨rfl, rfl, rfl, rfl, trivial⟩) ⟨xsame_rf _, xsame_rf _, xsame_rf _, xsame_rf _, xsame_rf _, xsame_rf _, xsame_rf _, xsame_rf _, ⟨rfl, fun i hi => ?_⟩, xsame_rf _, xsame_rf _, trivial⟩
        dsimp only
        rw [if_pos hi, lrow_lt hi]
  refine hX.run (oc := [(434, oIsMap S.2.1), (125, oIn)]) kX11_order_ok ftX11_ok ctX11_ok hoc [] [] [] 60 ?_
  refine hX.callV0 (rest := []) (c_bring_one l (nI S.1.1) (nI S.2.2.1.1) (nI S.2.2.2.1.1) (nI S.2.2.2.2.1) pp av be so ro tb gv sd gr row _ _ _ S.2.1 hrt a ha) yX11_bring_ok lkX11_220 ivX11_bring slX11_bring ⟨rfl, rfl, by decide, by decide⟩ (kX11_order_ok.at 31 rfl) rfl rfl (by decide) rfl rfl rfl (fun _ _ q => by rw [q.2]; rfl) (fun r9 G1 q => ?_)
  obtain ⟨rfl, rfl⟩ := q
  refine hX.run (oc := [(434, oIsMap S.2.1), (125, oIn)]) kX11_order_ok ftX11_ok ctX11_ok hoc [] [] [] 60 ?_
  refine hX.callV0 (rest := []) (c_bring_table l (nI S.1.1) (nI S.2.2.1.1) (nI S.2.2.2.1.1) (nI S.2.2.2.2.1) pp av be so ro tb gv sd gr row _ _ _ S.2.1 hrt a ha) yX11_bring_ok lkX11_220 ivX11_bring slX11_bring ⟨rfl, rfl, by decide, by decide⟩ (kX11_order_ok.at 40 rfl) rfl rfl (by decide) rfl rfl rfl (fun _ _ q => by rw [q.2]; rfl) (fun r9 G1 q => ?_)
  obtain ⟨rfl, rfl⟩ := q
  refine hX.run (oc := [(434, oIsMap S.2.1), (125, oIn)]) kX11_order_ok ftX11_ok ctX11_ok hoc [45] [] [] 60 ?_
  exact main mo 1 (S.2.1.2 a) two (by omega) hx (hgood a ha) rfl
def put9 (g : Nat → Int32) (N : Nat) (w : Nat → Int32) : Nat → Int32 := upd (upd (upd (upd (upd (upd (upd (upd (upd (g) (9 * N + 0) (w 0)) (9 * N + 1) (w 1)) (9 * N + 2) (w 2)) (9 * N + 3) (w 3)) (9 * N + 4) (w 4)) (9 * N + 5) (w 5)) (9 * N + 6) (w 6)) (9 * N + 7) (w 7)) (9 * N + 8) (w 8)
theorem put9_at {g : Nat → Int32} {N : Nat} {w : Nat → Int32} (i : Nat) (hi : i < 9) : put9 g N w (9 * N + i) = w i := by
  unfold put9 upd
  rcases (show i = 0 ∨ i = 1 ∨ i = 2 ∨ i = 3 ∨ i = 4 ∨ i = 5 ∨ i = 6 ∨ i = 7 ∨ i = 8 by omega) with rfl | rfl | rfl | rfl | rfl | rfl | rfl | rfl | rfl <;> simp
theorem put9_ne {g : Nat → Int32} {N : Nat} {w : Nat → Int32} {j : Nat} (hj : j < 9 * N) : put9 g N w j = g j := by
  unfold put9 upd
  rw [if_neg (by omega), if_neg (by omega), if_neg (by omega), if_neg (by omega), if_neg (by omega), if_neg (by omega), if_neg (by omega), if_neg (by omega), if_neg (by omega)]
theorem fndP_or (P : SM) (w : Nat → Int) : fndP P w = -3 ∨ (0 ≤ fndP P w ∧ fndP P w < P.1) := by
  unfold fndP
  cases h : fnd (hitM P.2 w) P.1 0 with
  | none => exact Or.inl rfl
  | some k =>
    have := fnd_lt h
    refine Or.inr ⟨?_, ?_⟩ <;> dsimp only <;> omega
theorem RT.put {P : SM} {gr : Nat → Int32} {w : Nat → Int} (h : RT 48 P gr) (hw : ∀ i, i < 9 → ab (w i) 500) (hP : P.1 < 48) : RT 48 (P.1 + 1, fun j => if j = P.1 then w else P.2 j) (put9 gr P.1 (fun i => zi (w i))) := by
  refine ⟨by show P.1 + 1 ≤ 48; omega, fun k i hk hi => ?_⟩
  dsimp only at hk ⊢
  by_cases e : k = P.1
  · subst e
    rw [if_pos rfl, put9_at i hi]
    exact ⟨rfl, hw i hi⟩
  · rw [if_neg e, put9_ne (by omega)]
    exact h.2 k i (by omega) hi
set_option maxHeartbeats 4000000 in
set_option maxRecDepth 100000 in
theorem r_group (l : Launch) (S : SS) (G0 : List xE) (hG : RInv S G0) (hgood : goodM S.2.1) (hgd : goodM (1, S.2.2.2.2.2)) (m0 : Int32) : xM l yX11_group cX11_group 6 (some .int) rX11_group [.ref 0, .int m0] G0 (fun r G => r = some (.int (zi (sp_group S m0.toInt).1)) ∧ RInv (sp_group S m0.toInt).2 G) := by
  have hG9 := hG
  obtain ⟨pp, av, be, so, ro, tb, gv, sd, gr, row, table, one, two, rfl, hro, hrt, hrv, hrs, hrg, hr1⟩ := hG
  refine xM.of (by decide) (Nat.le_of_ble_eq_true rfl) (fun X hX => ?_)
  have hM := hrt.1
  have hV := hrs.1
  have hoc := xoc1 (oIn_ok hX (by decide)) xnoc
  have inq : ((Int64.ofNat ((1 : Fin 2) : Nat)) ≤ m0.toInt64 ∧ m0.toInt64 ≤ 48) ↔ (1 ≤ m0.toInt ∧ m0.toInt ≤ 48) := by
    have e1 : (Int64.ofNat ((1 : Fin 2) : Nat)) = zl 1 := rfl
    have e2 : (48 : Int64) = zl 48 := rfl
    rw [e1, e2, i64, zl_le ⟨by omega, by omega⟩ (i32_jr m0), zl_le (i32_jr m0) ⟨by omega, by omega⟩]
  refine hX.run (oc := [(125, oIn)]) kX11_group_ok ftX11_ok ctX11_ok hoc [15, 32] [9] [] 60 ?_
  refine ⟨fun h2 => ?_, fun h2 => ?_⟩
  rotate_left
  · have e : sp_group S m0.toInt = (-2, S) := by unfold sp_group; rw [if_neg (fun q => h2 (inq.mpr q))]
    rw [e]
    exact ⟨rfl, hG9⟩
  have g2 := inq.mp h2
  obtain ⟨mo, rfl, hmo⟩ : ∃ mo : Nat, m0 = nI mo ∧ m0.toInt = mo := ⟨m0.toInt.toNat, nI_of_int (by omega) (by omega), by omega⟩
  have hmo8 : 1 ≤ mo ∧ mo ≤ 48 := by omega
  have esp : sp_group S (nI mo).toInt = ((gr2 S.2.1 S.2.2.2.1.2 mo S.2.2.2.1.1 49 0 (1, S.2.2.2.2.2)).1, (S.1, S.2.1, S.2.2.1, (0, S.2.2.2.1.2), (gr2 S.2.1 S.2.2.2.1.2 mo S.2.2.2.1.1 49 0 (1, S.2.2.2.2.2)).2)) := by
    unfold sp_group
    rw [if_pos g2, hmo]; rfl
  have fin : ∀ (r : Int) (P : SM) (gr table one two : Nat → Int64) (gr : Nat → Int32), gr2 S.2.1 S.2.2.2.1.2 mo S.2.2.2.1.1 49 0 (1, S.2.2.2.2.2) = (r, P) → RT 48 P gr → 1 ≤ P.1 → some (Value.int (zi r)) = some (.int (zi (sp_group S (nI mo).toInt).1)) ∧ RInv (sp_group S (nI mo).toInt).2 (GR (nI S.1.1) (nI S.2.1.1) (nI S.2.2.1.1) (nI 0) (nI P.1) pp av be so ro tb gv sd (gr) row (table) (one) (two)) := by
    intro r P _ table one two gr h hP h1
    rw [esp, h]
    exact ⟨rfl, pp, av, be, so, ro, tb, gv, sd, gr, row, table, one, two, rfl, hro, hrt, hrv, ⟨by show 0 ≤ 4; omega, fun k hk => absurd hk (Nat.not_lt_zero k)⟩, hP, h1⟩
  have main : ∀ (f k : Nat) (P : SM) (gr : Nat → Int32) (table one two : Nat → Int64), f + k = 49 → k ≤ P.1 → 1 ≤ P.1 → P.1 ≤ mo → RT 48 P gr → goodM P → gr2 S.2.1 S.2.2.2.1.2 mo S.2.2.2.1.1 49 0 (1, S.2.2.2.2.2) = gr2 S.2.1 S.2.2.2.1.2 mo S.2.2.2.1.1 f k P → X 32 [some (.ref 0), some (.int (nI mo)), some (.int (nI S.2.2.2.1.1)), some (.int (nI k)), none, none] [] (GR (nI S.1.1) (nI S.2.1.1) (nI S.2.2.1.1) (nI 0) (nI P.1) pp av be so ro tb gv sd (gr) row (table) (one) (two)) := by
    intro f
    induction f with
    | zero =>
      intro k P gr table one two hk hkP h1 hPm hP hg hv
      omega
    | succ f ih =>
      intro k P gr table one two hk hkP h1 hPm hP hg hv
      by_cases hlt : k < P.1
      rotate_left
      · have e : gr2 S.2.1 S.2.2.2.1.2 mo S.2.2.2.1.1 (f + 1) k P = ((P.1 : Int), P) := by rw [gr2, if_neg hlt]
        refine hX.run (oc := [(125, oIn)]) kX11_group_ok ftX11_ok ctX11_ok hoc [32] [] [] 60 ?_
        refine ⟨fun _ => ?_, fun h => absurd (nI_le (by omega) (by omega)) h⟩
        rw [← zi_nI]
        exact fin _ P table table one two gr (hv.trans e) hP h1
      have inner : ∀ (d s : Nat) (P : SM) (gr : Nat → Int32) (table one two : Nat → Int64), d + s = S.2.2.2.1.1 → k < P.1 → 1 ≤ P.1 → P.1 ≤ mo → RT 48 P gr → goodM P → gr2 S.2.1 S.2.2.2.1.2 mo S.2.2.2.1.1 49 0 (1, S.2.2.2.2.2) = (match gr1 S.2.1 S.2.2.2.1.2 mo k d s P with | (some r, P') => (r, P') | (none, P') => gr2 S.2.1 S.2.2.2.1.2 mo S.2.2.2.1.1 f (k + 1) P') → X 43 [some (.ref 0), some (.int (nI mo)), some (.int (nI S.2.2.2.1.1)), some (.int (nI k)), some (.int (nI s)), none] [] (GR (nI S.1.1) (nI S.2.1.1) (nI S.2.2.1.1) (nI 0) (nI P.1) pp av be so ro tb gv sd (gr) row (table) (one) (two)) := by
        intro d
        induction d with
        | zero =>
          intro s P gr table one two hs hlt h1 hPm hP hg hv
          have := ih (k + 1) P gr table one two (by omega) (by omega) h1 hPm hP hg hv
          rw [← nI_1] at this
          refine hX.run (oc := [(125, oIn)]) kX11_group_ok ftX11_ok ctX11_ok hoc [32] [] [] 60 ?_
          refine ⟨fun _ => hX.less this ⟨rfl, rfl, rfl, rfl, trivial⟩, fun h => absurd (nI_le (by omega) (by omega)) h⟩
        | succ d ih2 =>
          intro s P gr table one two hs hlt h1 hPm hP hg hv
          obtain ⟨hsd, hsm⟩ := hrs.2 s (by omega)
          have hP8 := hP.1
          refine hX.run (oc := [(125, oIn)]) kX11_group_ok ftX11_ok ctX11_ok hoc [85] [56] [76] 300 ?_
          refine ⟨fun h => absurd h (nI_ge (by omega) (by omega)), fun _ => ?_⟩
          refine ⟨9 * k + 0, ixT_nI k 0, by omega, by omega, ?_⟩
          refine ⟨9 * k + 1, ixT_nI k 1, by omega, by omega, ?_⟩
          refine ⟨9 * k + 2, ixT_nI k 2, by omega, by omega, ?_⟩
          refine ⟨9 * k + 3, ixT_nI k 3, by omega, by omega, ?_⟩
          refine ⟨9 * k + 4, ixT_nI k 4, by omega, by omega, ?_⟩
          refine ⟨9 * k + 5, ixT_nI k 5, by omega, by omega, ?_⟩
          refine ⟨9 * k + 6, ixT_nI k 6, by omega, by omega, ?_⟩
          refine ⟨9 * k + 7, ixT_nI k 7, by omega, by omega, ?_⟩
          refine ⟨9 * k + 8, ixT_nI k 8, by omega, by omega, ?_⟩
          refine hX.alike (G2 := GR (nI S.1.1) (nI S.2.1.1) (nI S.2.2.1.1) (nI 0) (nI P.1) pp av be so ro tb gv sd (gr) row (table) (one) (fun i => zl (P.2 k i))) ?_ ⟨xsame_rf _, xsame_rf _, xsame_rf _, xsame_rf _, xsame_rf _, xsame_rf _, xsame_rf _, xsame_rf _, xsame_rf _, xsame_rf _, ⟨rfl, fun i hi => ?_⟩, trivial⟩
          rotate_left
          · unfold vp_updL
            dsimp only
            have r := hP.2 k i hlt hi
            rw [← zl_i (z := P.2 k i) (by omega), ← r.1]
            rcases (show i = 0 ∨ i = 1 ∨ i = 2 ∨ i = 3 ∨ i = 4 ∨ i = 5 ∨ i = 6 ∨ i = 7 ∨ i = 8 by omega) with rfl | rfl | rfl | rfl | rfl | rfl | rfl | rfl | rfl <;> rfl
          refine hX.run (oc := [(125, oIn)]) kX11_group_ok ftX11_ok ctX11_ok hoc [] [] [92] 60 ?_
          refine ⟨s, rfl, by omega, by omega, ?_⟩
          have hb := c_bring_one l (nI S.1.1) (nI S.2.2.1.1) (nI 0) (nI P.1) pp av be so ro tb gv sd gr row table one (fun i => zl (P.2 k i)) S.2.1 hrt (S.2.2.2.1.2 s) hsm
          rw [← hsd] at hb
          refine hX.callV0 (rest := []) hb yX11_bring_ok lkX11_220 ivX11_bring slX11_bring ⟨rfl, rfl, by decide, by decide⟩ (kX11_group_ok.at 97 rfl) rfl rfl (by decide) rfl rfl rfl (fun _ _ q => by rw [q.2]; rfl) (fun r9 G1 q => ?_)
          obtain ⟨rfl, rfl⟩ := q
          have hx : ∀ i, i < 9 → ab (S.2.1.2 (S.2.2.2.1.2 s) i) 500 := fun i hi => hrt.bd hsm hi
          have hy : ∀ i, i < 9 → ab (P.2 k i) 500 := fun i hi => hP.bd hlt hi
          have hd2 : det9 (mul9 (S.2.1.2 (S.2.2.2.1.2 s)) (P.2 k)) ≠ 0 := by
            rw [tdet]
            exact Int.mul_ne_zero (hgood _ hsm) (hg k hlt)
          refine hX.run (oc := [(125, oIn)]) kX11_group_ok ftX11_ok ctX11_ok hoc [] [] [] 60 ?_
          refine hX.callS [9, 10, 8] [] (c_times l (S.2.1.2 (S.2.2.2.1.2 s)) (P.2 k) _) yX11_times_ok lkX11_128 ssX11_times ⟨rfl, rfl, by decide, by decide⟩ (kX11_group_ok.at 112 rfl) rfl rfl (by decide) ⟨rfl, rfl, rfl, trivial⟩ rfl (fun _ _ q => by rw [q.2]; rfl) (fun r9 G1 q => ?_)
          obtain ⟨rfl, rfl⟩ := q
          refine hX.run (oc := [(125, oIn)]) kX11_group_ok ftX11_ok ctX11_ok hoc [] [] [] 60 ?_
          refine hX.callV [8, 0] [] (c_least l 9 9 (by omega) (by omega) (mul9 (S.2.1.2 (S.2.2.2.1.2 s)) (P.2 k)) (fun i hi => ab_jr (mul9_bd hx hy i hi) (by decide)) (det_ne hd2)) yX11_least_ok lkX11_58 ivX11_least slX11_least ⟨rfl, rfl, by decide, by decide⟩ (kX11_group_ok.at 122 rfl) rfl rfl (by decide) rfl rfl rfl ⟨rfl, trivial⟩ rfl (fun _ _ q => by rw [q.2]; rfl) (fun r G1 q => ?_)
          obtain ⟨rfl, rfl⟩ := q
          refine hX.run (oc := [(125, oIn)]) kX11_group_ok ftX11_ok ctX11_ok hoc [131] [] [] 60 ?_
          refine ⟨fun h => ?_, fun h => ?_⟩
          · have hf := bI_0.mp h
            have e : gr1 S.2.1 S.2.2.2.1.2 mo k (d + 1) s P = (some (-4), P) := by rw [gr1, if_neg (by rw [hf]; decide)]
            rw [e] at hv
            exact fin (-4) P table _ _ _ gr hv hP h1
          have hf : fit (mul9 (S.2.1.2 (S.2.2.2.1.2 s)) (P.2 k)) 9 9 = true := by
            cases hbb : fit (mul9 (S.2.1.2 (S.2.2.2.1.2 s)) (P.2 k)) 9 9 with
            | true => rfl
            | false => exact absurd (bI_0.mpr hbb) h
          refine hX.alike (G2 := GR (nI S.1.1) (nI S.2.1.1) (nI S.2.2.1.1) (nI 0) (nI P.1) pp av be so ro tb gv sd (gr) row (fun i => zl (lrow (mul9 (S.2.1.2 (S.2.2.2.1.2 s)) (P.2 k)) 9 i)) (fun i => zl (S.2.1.2 (S.2.2.2.1.2 s) i)) (fun i => zl (P.2 k i))) ?_ ⟨xsame_rf _, xsame_rf _, xsame_rf _, xsame_rf _, xsame_rf _, xsame_rf _, xsame_rf _, xsame_rf _, ⟨rfl, fun i hi => ?_⟩, xsame_rf _, xsame_rf _, trivial⟩
          rotate_left
          · dsimp only
            rw [if_pos hi, lrow_lt hi]
          refine hX.run (oc := [(125, oIn)]) kX11_group_ok ftX11_ok ctX11_ok hoc [] [] [] 60 ?_
          refine hX.callV0 (rest := []) (c_find l (nI S.1.1) (nI S.2.1.1) (nI S.2.2.1.1) (nI 0) pp av be so ro tb gv sd gr row _ _ P (lrow (mul9 (S.2.1.2 (S.2.2.2.1.2 s)) (P.2 k)) 9) hP (fun i hi => lrow_bd hf i hi)) yX11_find_ok lkX11_264 ivX11_find slX11_find ⟨rfl, rfl, by decide, by decide⟩ (kX11_group_ok.at 132 rfl) rfl rfl (by decide) rfl rfl rfl (fun _ _ q => by rw [q.2]) (fun r9 G1 q => ?_)
          obtain ⟨rfl, rfl⟩ := q
          have hor := fndP_or P (lrow (mul9 (S.2.1.2 (S.2.2.2.1.2 s)) (P.2 k)) 9)
          refine hX.run (oc := [(125, oIn)]) kX11_group_ok ftX11_ok ctX11_ok hoc [43, 197] [155] [180] 400 ?_
          refine ⟨fun h => ?_, fun h => ?_⟩
          · have h0 : 0 ≤ fndP P (lrow (mul9 (S.2.1.2 (S.2.2.2.1.2 s)) (P.2 k)) 9) := by
              rw [Int32.le_iff_toInt_le] at h
              have h3 : (0 : Int32).toInt = 0 := rfl
              rw [zi_to (by omega)] at h
              omega
            have e : gr1 S.2.1 S.2.2.2.1.2 mo k (d + 1) s P = gr1 S.2.1 S.2.2.2.1.2 mo k d (s + 1) P := by rw [gr1, if_pos hf, if_pos h0]
            rw [e] at hv
            have := ih2 (s + 1) P gr (fun i => zl (lrow (mul9 (S.2.1.2 (S.2.2.2.1.2 s)) (P.2 k)) 9 i)) (fun i => zl (S.2.1.2 (S.2.2.2.1.2 s) i)) (fun i => zl (P.2 k i)) (by omega) hlt h1 hPm hP hg hv
            rw [← nI_1] at this
            refine hX.run (oc := [(125, oIn)]) kX11_group_ok ftX11_ok ctX11_ok hoc [43] [] [] 60 ?_
            exact hX.less this ⟨rfl, rfl, rfl, rfl, rfl, trivial⟩
          have h0 : ¬ 0 ≤ fndP P (lrow (mul9 (S.2.1.2 (S.2.2.2.1.2 s)) (P.2 k)) 9) := by
            intro q
            apply h
            rw [Int32.le_iff_toInt_le]
            have h3 : (0 : Int32).toInt = 0 := rfl
            rw [zi_to (by omega)]
            omega
          refine ⟨fun h4 => ?_, fun h4 => ?_⟩
          · have h5 : P.1 = mo := by
              have h6 : nI P.1 = nI mo := h4
              rwa [nI_eq (by omega) (by omega)] at h6
            have e : gr1 S.2.1 S.2.2.2.1.2 mo k (d + 1) s P = (some 0, P) := by rw [gr1, if_pos hf, if_neg h0, if_pos h5]
            rw [e] at hv
            exact fin 0 P table _ _ _ gr hv hP h1
          have h5 : ¬ P.1 = mo := fun e => h4 (by rw [e])
          have e : gr1 S.2.1 S.2.2.2.1.2 mo k (d + 1) s P = gr1 S.2.1 S.2.2.2.1.2 mo k d (s + 1) (P.1 + 1, fun j => if j = P.1 then lrow (mul9 (S.2.1.2 (S.2.2.2.1.2 s)) (P.2 k)) 9 else P.2 j) := by rw [gr1, if_pos hf, if_neg h0, if_neg h5]
          rw [e] at hv
          refine ⟨9 * P.1 + 0, ixT_nI P.1 0, by omega, by omega, ?_⟩
          refine ⟨9 * P.1 + 1, ixT_nI P.1 1, by omega, by omega, ?_⟩
          refine ⟨9 * P.1 + 2, ixT_nI P.1 2, by omega, by omega, ?_⟩
          refine ⟨9 * P.1 + 3, ixT_nI P.1 3, by omega, by omega, ?_⟩
          refine ⟨9 * P.1 + 4, ixT_nI P.1 4, by omega, by omega, ?_⟩
          refine ⟨9 * P.1 + 5, ixT_nI P.1 5, by omega, by omega, ?_⟩
          refine ⟨9 * P.1 + 6, ixT_nI P.1 6, by omega, by omega, ?_⟩
          refine ⟨9 * P.1 + 7, ixT_nI P.1 7, by omega, by omega, ?_⟩
          refine ⟨9 * P.1 + 8, ixT_nI P.1 8, by omega, by omega, ?_⟩
          have hg2 : goodM (P.1 + 1, fun j => if j = P.1 then lrow (mul9 (S.2.1.2 (S.2.2.2.1.2 s)) (P.2 k)) 9 else P.2 j) := by
            intro j hj
            dsimp only at hj ⊢
            by_cases ej : j = P.1
            · rw [if_pos ej]; exact lrow_det hd2
            · rw [if_neg ej]; exact hg j (by omega)
          have := ih2 (s + 1) (P.1 + 1, fun j => if j = P.1 then lrow (mul9 (S.2.1.2 (S.2.2.2.1.2 s)) (P.2 k)) 9 else P.2 j) (put9 gr P.1 (fun i => zi (lrow (mul9 (S.2.1.2 (S.2.2.2.1.2 s)) (P.2 k)) 9 i))) (fun i => zl (lrow (mul9 (S.2.1.2 (S.2.2.2.1.2 s)) (P.2 k)) 9 i)) (fun i => zl (S.2.1.2 (S.2.2.2.1.2 s) i)) (fun i => zl (P.2 k i)) (by omega) (by show k < P.1 + 1; omega) (by show 1 ≤ P.1 + 1; omega) (by show P.1 + 1 ≤ mo; omega) (hP.put (lrow_bd hf) (by omega)) hg2 hv
          rw [← nI_1] at this
          have e9 : put9 gr P.1 (fun i => zi (lrow (mul9 (S.2.1.2 (S.2.2.2.1.2 s)) (P.2 k)) 9 i)) = put9 gr P.1 (fun i => (zl (lrow (mul9 (S.2.1.2 (S.2.2.2.1.2 s)) (P.2 k)) 9 i)).toInt32) := by
            congr 1
            funext i
            exact (zi_l _).symm
          rw [e9] at this
          refine hX.run (oc := [(125, oIn)]) kX11_group_ok ftX11_ok ctX11_ok hoc [43] [] [] 60 ?_
          refine hX.less (lv' := [some (.ref 0), some (.int (nI mo)), some (.int (nI S.2.2.2.1.1)), some (.int (nI k)), some (.int (nI s + 1)), none]) ?_ ⟨rfl, rfl, rfl, rfl, rfl, trivial⟩
          have e3 : nI (P.1 + 1, fun j => if j = P.1 then lrow (mul9 (S.2.1.2 (S.2.2.2.1.2 s)) (P.2 k)) 9 else P.2 j).1 = nI P.1 + 1 := (nI_1 P.1).symm
          rw [e3] at this
          exact this
      refine hX.run (oc := [(125, oIn)]) kX11_group_ok ftX11_ok ctX11_ok hoc [43] [] [] 60 ?_
      refine ⟨fun h => absurd h (nI_ge hlt (by omega)), fun _ => ?_⟩
      refine hX.less (inner S.2.2.2.1.1 0 P gr table one two (by omega) hlt h1 hPm hP hg ?_) ⟨rfl, rfl, rfl, rfl, rfl, trivial⟩
      rw [hv, gr2, if_pos hlt]
  refine hX.run (oc := [(125, oIn)]) kX11_group_ok ftX11_ok ctX11_ok hoc [32] [] [] 60 ?_
  exact main 49 0 (1, S.2.2.2.2.2) gr table one two (by omega) (by show 0 ≤ 1; omega) (by show 1 ≤ 1; omega) (by show 1 ≤ mo; omega) ⟨by show 1 ≤ 48; omega, fun k i hk hi => hrg.2 k i (by have : k < 1 := hk; omega) hi⟩ hgd rfl
