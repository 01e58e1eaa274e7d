/-! the class: make -/
def GCq (gm fm tm : Nat → Option Nat) (n1 : Int32) (so ce : Nat → Int32) (n2 : Int32) (mso mce : Nat → Int32) (n3 : Int32) (rme : Nat → Int32) (n4 : Int32) (sme : Nat → Int32) (n5 : Int32) (mks : Nat → Int32) (q : Nat → Nat → Int) (f0 f1 f2 t0 t1 t2 we pa iv tu fo hal : Nat → Int64) (n6 : Int32) (va le mi co fr : Nat → Int64) (n7 : Int32) (eso ece : Nat → Int32) (be af bo tr sx fi se re p3 q3 r3 s3 : Nat → Int64) : List xE := [.inr (6, [.ref 1, .ref 4, .ref 7, .ref 9, .ref 11, .ref 32, .ref 37, .ref 43, .ref 50, .ref 51, .ref 52, .ref 53, .ref 54, .ref 55, .ref 56, .ref 57, .ref 58]), .inr (5, [.ref 2, .ref 3, .int (nI 60), .int (n1)]), .inl (60, .inl (so)), .inl (540, .inl (ce)), .inr (5, [.ref 5, .ref 6, .int (nI 40), .int (n2)]), .inl (60, .inl (mso)), .inl (540, .inl (mce)), .inr (2, [.ref 8, .int (nI 8), .int (n3)]), .inl (8, .inl (rme)), .inr (2, [.ref 10, .int (nI 4), .int (n4)]), .inl (8, .inl (sme)), .inr (3, [.ref 12, .ref 13, .ref 22, .ref 26, .ref 30, .ref 31, .int n5]), .inl (8, .inl mks), .inl (8, .inr (.inr (.inr (.inr (gm))))), .inl (3, .inr (.inl (fun i => zl (q 0 i)))), .inl (3, .inr (.inl (fun i => zl (q 1 i)))), .inl (3, .inr (.inl (fun i => zl (q 2 i)))), .inl (3, .inr (.inl (fun i => zl (q 3 i)))), .inl (3, .inr (.inl (fun i => zl (q 4 i)))), .inl (3, .inr (.inl (fun i => zl (q 5 i)))), .inl (3, .inr (.inl (fun i => zl (q 6 i)))), .inl (3, .inr (.inl (fun i => zl (q 7 i)))), .inl (3, .inr (.inr (.inr (.inr (fm))))), .inl (3, .inr (.inl (f0))), .inl (3, .inr (.inl (f1))), .inl (3, .inr (.inl (f2))), .inl (3, .inr (.inr (.inr (.inr (tm))))), .inl (3, .inr (.inl (t0))), .inl (3, .inr (.inl (t1))), .inl (3, .inr (.inl (t2))), .inl (3, .inr (.inl (we))), .inl (2, .inr (.inl (pa))), .inr (1, [.ref 33, .ref 34, .ref 35, .ref 36]), .inl (9, .inr (.inl (iv))), .inl (9, .inr (.inl (tu))), .inl (9, .inr (.inl (fo))), .inl (9, .inr (.inl (hal))), .inr (4, [.ref 38, .ref 39, .ref 40, .ref 41, .ref 42, .int n6]), .inl (3, .inr (.inl (va))), .inl (9, .inr (.inl (le))), .inl (9, .inr (.inl (mi))), .inl (9, .inr (.inl (co))), .inl (3, .inr (.inl (fr))), .inr (0, [.ref 44, .ref 47, .ref 48, .ref 49]), .inr (5, [.ref 45, .ref 46, .int (nI 48), .int (n7)]), .inl (60, .inl (eso)), .inl (540, .inl (ece)), .inl (9, .inr (.inl (be))), .inl (9, .inr (.inl (af))), .inl (9, .inr (.inl (bo))), .inl (3, .inr (.inl (tr))), .inl (6, .inr (.inl (sx))), .inl (9, .inr (.inl (fi))), .inl (9, .inr (.inl (se))), .inl (9, .inr (.inl (re))), .inl (3, .inr (.inl (p3))), .inl (3, .inr (.inl (q3))), .inl (3, .inr (.inl (r3))), .inl (3, .inr (.inl (s3)))]
theorem qeq {rho : Nat → Nat} {n : Nat} {f g : Nat → Option Nat} (h : g = xq rho f) : (some (.inl (n, .inr (.inr (.inr (.inr g))))) : Option xE) = some (xren rho (.inl (n, .inr (.inr (.inr (.inr f)))))) := by rw [h]; rfl
theorem gm_t : gmapC = xq (xrho [11, 12, 13, 22, 26, 30, 31, 14, 15, 16, 17, 18, 19, 20, 21, 23, 24, 25, 27, 28, 29, 1, 2, 3, 7, 8]) gmap := by
  funext i
  match i with
  | 0 => rfl
  | 1 => rfl
  | 2 => rfl
  | 3 => rfl
  | 4 => rfl
  | 5 => rfl
  | 6 => rfl
  | 7 => rfl
  | _ + 8 => rfl
theorem fm_t : fmapC = xq (xrho [11, 12, 13, 22, 26, 30, 31, 14, 15, 16, 17, 18, 19, 20, 21, 23, 24, 25, 27, 28, 29, 1, 2, 3, 7, 8]) fmap := by
  funext i
  match i with
  | 0 => rfl
  | 1 => rfl
  | 2 => rfl
  | _ + 3 => rfl
theorem tm_t : tmapC = xq (xrho [11, 12, 13, 22, 26, 30, 31, 14, 15, 16, 17, 18, 19, 20, 21, 23, 24, 25, 27, 28, 29, 1, 2, 3, 7, 8]) tmap := by
  funext i
  match i with
  | 0 => rfl
  | 1 => rfl
  | 2 => rfl
  | _ + 3 => rfl
theorem gm_b : gmapC = xq (xrho [11, 12, 13, 22, 26, 30, 31, 14, 15, 16, 17, 18, 19, 20, 21, 23, 24, 25, 27, 28, 29, 54]) gmap := by
  funext i
  match i with
  | 0 => rfl
  | 1 => rfl
  | 2 => rfl
  | 3 => rfl
  | 4 => rfl
  | 5 => rfl
  | 6 => rfl
  | 7 => rfl
  | _ + 8 => rfl
theorem fm_b : fmapC = xq (xrho [11, 12, 13, 22, 26, 30, 31, 14, 15, 16, 17, 18, 19, 20, 21, 23, 24, 25, 27, 28, 29, 54]) fmap := by
  funext i
  match i with
  | 0 => rfl
  | 1 => rfl
  | 2 => rfl
  | _ + 3 => rfl
theorem tm_b : tmapC = xq (xrho [11, 12, 13, 22, 26, 30, 31, 14, 15, 16, 17, 18, 19, 20, 21, 23, 24, 25, 27, 28, 29, 54]) tmap := by
  funext i
  match i with
  | 0 => rfl
  | 1 => rfl
  | 2 => rfl
  | _ + 3 => rfl
def spQ (S : SS) (q : Nat → Nat → Int) (k u v : Int) : Int × SS := if (0 ≤ k ∧ k ≤ 8) ∧ (-1000 ≤ u ∧ u ≤ 1000) ∧ (-1000 ≤ v ∧ v ≤ 1000) then (if bldC S.2.2.1.1 (gs S.1 S.2.2.1) q k.toNat u v = 0 then ((addM S.2.1 (bldT q k.toNat u v)).1, (S.1, (addM S.2.1 (bldT q k.toNat u v)).2, (0, S.2.2.1.2), S.2.2.2)) else (bldC S.2.2.1.1 (gs S.1 S.2.2.1) q k.toNat u v, (S.1, S.2.1, (0, S.2.2.1.2), S.2.2.2))) else (-2, S)
def agr (S : SS) (q : Nat → Nat → Int) : Prop := ∀ k i, k < S.2.2.1.1 → i < 3 → q k i = gq S.1 S.2.2.1 k i
theorem prjC_or (n : Nat) (ss : Nat → Nat) (q : Nat → Nat → Int) : prjC n ss q = 0 ∨ prjC n ss q = -3 ∨ prjC n ss q = -4 := by
  unfold prjC
  split
  · split <;> omega
  · omega
theorem bldC_or (n : Nat) (ss : Nat → Nat) (q : Nat → Nat → Int) (k : Nat) (u v : Int) : bldC n ss q k u v = 0 ∨ bldC n ss q k u v = -3 ∨ bldC n ss q k u v = -4 := by
  have h := prjC_or n ss q
  unfold bldC
  repeat' split
  all_goals omega
set_option maxHeartbeats 4000000 in
set_option maxRecDepth 100000 in
theorem k_make (l : Launch) (S : SS) (G0 : List xE) (hG : CInv S G0) (k u v : Int32) (hB : ∀ q, agr S q → (0 ≤ k.toInt ∧ k.toInt ≤ 8) → (-1000 ≤ u.toInt ∧ u.toInt ≤ 1000) → (-1000 ≤ v.toInt ∧ v.toInt ≤ 1000) → bldC S.2.2.1.1 (gs S.1 S.2.2.1) q k.toInt.toNat u.toInt v.toInt = 0 → (∀ i, i < 9 → jr (bldT q k.toInt.toNat u.toInt v.toInt i)) ∧ gN (bldT q k.toInt.toNat u.toInt v.toInt) 9 ≠ 0) : xM l yX10_make cX10_make 5 (some .int) rX10_make [.ref 0, .int k, .int u, .int v] G0 (fun r9 G => ∃ q9, agr S q9 ∧ r9 = some (.int (zi (spQ S q9 k.toInt u.toInt v.toInt).1)) ∧ CInv (spQ S q9 k.toInt u.toInt v.toInt).2 G) := by
  obtain ⟨so, ce, mso, mce, rme, sme, n5, mks, q, f0, f1, f2, t0, t1, t2, we, pa, iv, tu, fo, hal, n6, va, le, mi, co, fr, eso, ece, be, af, bo, tr, sx, fi, se, re, p3, q3, r3, s3, rfl, hO, hO2, hM, hM4, hV, hW, hE, hE4, hE1⟩ := hG
  refine xM.of (by decide) (Nat.le_of_ble_eq_true rfl) (fun X hX => ?_)
  have h60 := hO.1
  have h8 := hV.1
  have agr0 : agr S (gq S.1 S.2.2.1) := fun _ _ _ _ => rfl
  have ju := i32_jr u
  have jv := i32_jr v
  have bad : ¬ ((0 ≤ k.toInt ∧ k.toInt ≤ 8) ∧ (-1000 ≤ u.toInt ∧ u.toInt ≤ 1000) ∧ (-1000 ≤ v.toInt ∧ v.toInt ≤ 1000)) → ∃ q9, agr S q9 ∧ some (Value.int (zi (-2))) = some (.int (zi (spQ S q9 k.toInt u.toInt v.toInt).1)) ∧ CInv (spQ S q9 k.toInt u.toInt v.toInt).2 (GC (nI S.1.1) so ce (nI S.2.1.1) mso mce (nI S.2.2.1.1) rme (nI S.2.2.2.1.1) sme n5 mks q f0 f1 f2 t0 t1 t2 we pa iv tu fo hal n6 va le mi co fr (nI S.2.2.2.2.1) eso ece be af bo tr sx fi se re p3 q3 r3 s3) := by
    intro h
    refine ⟨_, agr0, ?_⟩
    have e : spQ S (gq S.1 S.2.2.1) k.toInt u.toInt v.toInt = (-2, S) := by unfold spQ; rw [if_neg h]
    rw [e]
    exact ⟨rfl, ⟨_, _, _, _, _, _, _, _, _, _, _, _, _, _, _, _, _, _, _, _, _, _, _, _, _, _, _, _, _, _, _, _, _, _, _, _, _, _, _, _, _, rfl, hO, hO2, hM, hM4, hV, hW, hE, hE4, hE1⟩⟩
  have L0 : ∀ kk : Nat, k = nI kk → k.toInt = kk → kk ≤ 8 → (-1000 ≤ u.toInt ∧ u.toInt ≤ 1000) → (-1000 ≤ v.toInt ∧ v.toInt ≤ 1000) → X 35 [some (.ref 0), some (.int k), some (.int u), some (.int v), none] [] (GC (nI S.1.1) so ce (nI S.2.1.1) mso mce (nI S.2.2.1.1) rme (nI S.2.2.2.1.1) sme n5 mks q f0 f1 f2 t0 t1 t2 we pa iv tu fo hal n6 va le mi co fr (nI S.2.2.2.2.1) eso ece be af bo tr sx fi se re p3 q3 r3 s3) := by
    rintro kk rfl ek hk hu hv
    have eQ : ∀ q, spQ S q (nI kk).toInt u.toInt v.toInt = (if bldC S.2.2.1.1 (gs S.1 S.2.2.1) q kk u.toInt v.toInt = 0 then ((addM S.2.1 (bldT q kk u.toInt v.toInt)).1, (S.1, (addM S.2.1 (bldT q kk u.toInt v.toInt)).2, (0, S.2.2.1.2), S.2.2.2)) else (bldC S.2.2.1.1 (gs S.1 S.2.2.1) q kk u.toInt v.toInt, (S.1, S.2.1, (0, S.2.2.1.2), S.2.2.2))) := by
      intro q
      unfold spQ
      rw [if_pos ⟨⟨by omega, by omega⟩, hu, hv⟩, ek]
      rfl
    have s2 : ∀ (q9 : Nat → Nat → Int) (mk9 : Nat → Int32) (f0 f1 f2 t0 t1 t2 we pa re : Nat → Int64) (gm fm tm : Nat → Option Nat), gm = gmapC → fm = fmapC → tm = tmapC → agr S q9 → (bldC S.2.2.1.1 (gs S.1 S.2.2.1) q9 kk u.toInt v.toInt = 0 → ∀ i, i < 9 → re i = zl (bldT q9 kk u.toInt v.toInt i)) → X 73 [some (.ref 0), some (.int (nI kk)), some (.int u), some (.int v), none] [.int (zi (bldC S.2.2.1.1 (gs S.1 S.2.2.1) q9 kk u.toInt v.toInt))] (GCq gm fm tm (nI S.1.1) so ce (nI S.2.1.1) mso mce (nI 0) rme (nI S.2.2.2.1.1) sme (nI S.2.2.1.1) mk9 q9 f0 f1 f2 t0 t1 t2 we pa iv tu fo hal n6 va le mi co fr (nI S.2.2.2.2.1) eso ece be af bo tr sx fi se re p3 q3 r3 s3) := by
      rintro q9 mk9 f0 f1 f2 t0 t1 t2 we pa re _ _ _ rfl rfl rfl hq9 hre
      by_cases hc : bldC S.2.2.1.1 (gs S.1 S.2.2.1) q9 kk u.toInt v.toInt = 0
      · obtain ⟨hz, hg⟩ := hB q9 hq9 ⟨by omega, by omega⟩ hu hv (by rw [ek]; exact hc)
        rw [ek] at hz hg
        have e := eQ q9
        rw [if_pos hc] at e
        refine hX.alikeL 54 (n := 9) (fun i => zl (bldT q9 kk u.toInt v.toInt i)) rfl (fun i hi => hre hc i hi) ?_
        rw [hc]
        refine hX.run (ft := ftX10) (ct := ctX10) (oc := []) kX10_make_ok ftX10_ok ctX10_ok xnoc [] [77] [] 100 ?_
        refine hX.callV0 (rest := []) (k_keepMap l (nI S.1.1) so ce mso mce (nI 0) rme (nI S.2.2.2.1.1) sme (nI S.2.2.1.1) mk9 q9 f0 f1 f2 t0 t1 t2 we pa iv tu fo hal n6 va le mi co fr (nI S.2.2.2.2.1) eso ece be af bo tr sx fi se p3 q3 r3 s3 S.2.1 hM hM4 (bldT q9 kk u.toInt v.toInt) hz hg) yX10_keepMap_ok lkX10_159 ivX10_keepMap slX10_keepMap ⟨rfl, rfl, by decide, by decide⟩ (kX10_make_ok.at 90 rfl) rfl rfl (by decide) rfl rfl rfl (fun _ _ q => by obtain ⟨_, _, _, -, -, rfl⟩ := q; rfl) (fun r9 G1 q => ?_)
        obtain ⟨so2, ce2, x2, rfl, q2, rfl⟩ := q
        refine hX.run (ft := ftX10) (ct := ctX10) (oc := []) kX10_make_ok ftX10_ok ctX10_ok xnoc [] [] [] 100 ?_
        refine ⟨q9, hq9, ?_⟩
        rw [e]
        exact ⟨rfl, ⟨_, _, _, _, _, _, _, _, _, _, _, _, _, _, _, _, _, _, _, _, _, _, _, _, _, _, _, _, _, _, _, _, _, _, _, _, _, _, _, _, _, rfl, hO, hO2, q2, addM_40 hM4 _, ⟨Nat.zero_le 8, fun j hj => absurd hj (Nat.not_lt_zero j)⟩, hW.wide (addM_ge _ _), hE, hE4, hE1⟩⟩
      · have e := eQ q9
        rw [if_neg hc] at e
        have hneg : ¬ (0 : Int32) ≤ zi (bldC S.2.2.1.1 (gs S.1 S.2.2.1) q9 kk u.toInt v.toInt) := by
          rcases bldC_or S.2.2.1.1 (gs S.1 S.2.2.1) q9 kk u.toInt v.toInt with h | h | h
          · exact absurd h hc
          · rw [h]; decide
          · rw [h]; decide
        refine hX.run (ft := ftX10) (ct := ctX10) (oc := []) kX10_make_ok ftX10_ok ctX10_ok xnoc [] [] [] 100 ?_
        refine ⟨fun h => absurd h hneg, fun _ => ?_⟩
        refine ⟨q9, hq9, ?_⟩
        rw [e]
        exact ⟨rfl, ⟨_, _, _, _, _, _, _, _, _, _, _, _, _, _, _, _, _, _, _, _, _, _, _, _, _, _, _, _, _, _, _, _, _, _, _, _, _, _, _, _, _, rfl, hO, hO2, hM, hM4, ⟨Nat.zero_le 8, fun j hj => absurd hj (Nat.not_lt_zero j)⟩, hW, hE, hE4, hE1⟩⟩
    have s1 : ∀ (q9 : Nat → Nat → Int) (mk9 : Nat → Int32) (gm fm tm : Nat → Option Nat), gm = gmapC → fm = fmapC → tm = tmapC → MR S.2.2.1.1 (gs S.1 S.2.2.1) mk9 q9 → agr S q9 → X 50 [some (.ref 0), some (.int (nI kk)), some (.int u), some (.int v), none] [] (GCq gm fm tm (nI S.1.1) so ce (nI S.2.1.1) mso mce (nI S.2.2.1.1) rme (nI S.2.2.2.1.1) sme (nI S.2.2.1.1) mk9 q9 f0 f1 f2 t0 t1 t2 we pa iv tu fo hal n6 va le mi co fr (nI S.2.2.2.2.1) eso ece be af bo tr sx fi se re p3 q3 r3 s3) := by
      rintro q9 mk9 _ _ _ rfl rfl rfl hr hq9
      refine hX.run (ft := ftX10) (ct := ctX10) (oc := []) kX10_make_ok ftX10_ok ctX10_ok xnoc [] [] [] 100 ?_
      refine hX.callV [7, 8] [] (k_lnClear l (nI S.2.2.1.1) 8 rme) yX4_clear_ok lkX10_152 ivX4_clear slX4_clear ⟨rfl, rfl, by decide, by decide⟩ (kX10_make_ok.at 54 rfl) rfl rfl (by decide) rfl rfl rfl ⟨rfl, rfl, trivial⟩ rfl (fun _ _ q => by rw [q.2]; rfl) (fun r9 G1 q => ?_)
      obtain ⟨rfl, rfl⟩ := q
      refine hX.run (ft := ftX10) (ct := ctX10) (oc := []) kX10_make_ok ftX10_ok ctX10_ok xnoc [] [] [] 100 ?_
      refine hX.callV [11, 12, 13, 22, 26, 30, 31, 14, 15, 16, 17, 18, 19, 20, 21, 23, 24, 25, 27, 28, 29, 54] [] (k_build l S.2.2.1.1 mk9 q9 f0 f1 f2 t0 t1 t2 we pa re (gs S.1 S.2.2.1) hr kk hk u.toInt v.toInt hu hv) yX5_build_ok lkX10_155 ivX5_build slX5_build ⟨rfl, rfl, by decide, by decide⟩ (kX10_make_ok.at 70 rfl) rfl rfl (by decide) rfl rfl rfl ⟨rfl, rfl, qeq gm_b, qeq fm_b, qeq tm_b, rfl, rfl, rfl, rfl, rfl, rfl, rfl, rfl, rfl, rfl, rfl, rfl, rfl, rfl, rfl, rfl, rfl, trivial⟩ rfl (fun _ _ q => by obtain ⟨_, _, _, _, _, _, _, _, _, -, -, rfl⟩ := q; rfl) (fun r9 G1 q => ?_)
      obtain ⟨f0', f1', f2', t0', t1', t2', we', pa', out', rfl, hre, rfl⟩ := q
      exact s2 q9 mk9 f0' f1' f2' t0' t1' t2' we' pa' out' _ _ _ gm_b.symm fm_b.symm tm_b.symm hq9 hre
    refine hX.run (ft := ftX10) (ct := ctX10) (oc := []) kX10_make_ok ftX10_ok ctX10_ok xnoc [] [] [] 100 ?_
    refine hX.callV [11, 12, 13, 22, 26, 30, 31, 14, 15, 16, 17, 18, 19, 20, 21, 23, 24, 25, 27, 28, 29, 1, 2, 3, 7, 8] [] (k_take l n5 mks q f0 f1 f2 t0 t1 t2 we pa S.1 S.2.2.1 so ce rme hO hO2 hV) yX5_take_ok lkX10_148 ivX5_take slX5_take ⟨rfl, rfl, by decide, by decide⟩ (kX10_make_ok.at 47 rfl) rfl rfl (by decide) rfl rfl rfl ⟨rfl, rfl, qeq gm_t, qeq fm_t, qeq tm_t, rfl, rfl, rfl, rfl, rfl, rfl, rfl, rfl, rfl, rfl, rfl, rfl, rfl, rfl, rfl, rfl, rfl, rfl, rfl, rfl, rfl, trivial⟩ rfl (fun _ _ q => by obtain ⟨_, _, -, -, -, rfl⟩ := q; rfl) (fun r9 G1 q => ?_)
    obtain ⟨mk9, q9, rfl, hr, hq9, rfl⟩ := q
    exact s1 q9 mk9 _ _ _ gm_t.symm fm_t.symm tm_t.symm hr hq9
  refine hX.run (ft := ftX10) (ct := ctX10) (oc := []) kX10_make_ok ftX10_ok ctX10_ok xnoc [35] [] [] 100 ?_
  refine ⟨fun h => ?_, fun h1 => ?_⟩
  · have h1 := i32_lt0.mp h
    exact bad (fun q => by omega)
  have h1 : ¬ k.toInt < 0 := fun q => h1 (i32_lt0.mpr q)
  refine ⟨fun h => ?_, fun h2 => ?_⟩
  · have h2 : nI 8 < k := h
    rw [Int32.lt_iff_toInt_lt, nI_toInt (by omega)] at h2
    exact bad (fun q => by omega)
  have h2 : ¬ nI 8 < k := h2
  rw [Int32.lt_iff_toInt_lt, nI_toInt (by omega)] at h2
  refine hX.callS [] [] (k_beyond l u.toInt 1000 ju ⟨by omega, by omega⟩) yX10_beyond_ok lkX10_144 ssX10_beyond ⟨rfl, rfl, by decide, by decide⟩ (kX10_make_ok.at 15 rfl) rfl rfl (by decide) trivial rfl (fun _ _ q => by rw [q.2]) (fun r9 G1 q => ?_)
  obtain ⟨rfl, rfl⟩ := q
  refine hX.run (ft := ftX10) (ct := ctX10) (oc := []) kX10_make_ok ftX10_ok ctX10_ok xnoc [35] [] [] 100 ?_
  refine ⟨fun h => ?_, fun h => ?_⟩
  rotate_left
  · have h3 := of_decide_eq_true (bI_t h)
    exact bad (fun q => by omega)
  have h3 := of_decide_eq_false (bI_0.mp h)
  refine hX.callS [] [] (k_beyond l v.toInt 1000 jv ⟨by omega, by omega⟩) yX10_beyond_ok lkX10_144 ssX10_beyond ⟨rfl, rfl, by decide, by decide⟩ (kX10_make_ok.at 26 rfl) rfl rfl (by decide) trivial rfl (fun _ _ q => by rw [q.2]) (fun r9 G1 q => ?_)
  obtain ⟨rfl, rfl⟩ := q
  refine hX.run (ft := ftX10) (ct := ctX10) (oc := []) kX10_make_ok ftX10_ok ctX10_ok xnoc [35] [] [] 100 ?_
  refine ⟨fun h => ?_, fun h => ?_⟩
  rotate_left
  · have h4 := of_decide_eq_true (bI_t h)
    exact bad (fun q => by omega)
  have h4 := of_decide_eq_false (bI_0.mp h)
  exact L0 k.toInt.toNat (nI_of_int (by omega) (by omega)) (by omega) (by omega) ⟨by omega, by omega⟩ ⟨by omega, by omega⟩
