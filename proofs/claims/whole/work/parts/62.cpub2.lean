/-! the class's public calls, second part -/
theorem bd3 {S : SO} {so ce : Nat → Int32} (hS : RH S so ce) {a : Nat} (ha : a < S.1) (i : Nat) (hi : i < 3) : ab (S.2.2 a i) 500 := (hS.2.2 a i ha (by unfold wd; split; omega; split <;> omega)).2
theorem dt3_bd {u v : Nat → Int} {A B : Int} (hu : ∀ i, i < 3 → ab (u i) A) (hv : ∀ i, i < 3 → ab (v i) B) : ab (dt3 u v) (A * B + A * B + A * B) :=
  ab_add (ab_add (ab_mul (hu 0 (by omega)) (hv 0 (by omega))) (ab_mul (hu 1 (by omega)) (hv 1 (by omega)))) (ab_mul (hu 2 (by omega)) (hv 2 (by omega)))
theorem limg_bd {A r : Nat → Int} (hA : ∀ i, i < 9 → ab (A i) 500000) (hr : ∀ i, i < 3 → ab (r i) 500) (i : Nat) (hi : i < 3) : ab (limg A r i) (500000 * 500 + 500000 * 500 + 500000 * 500) :=
  ab_add (ab_add (ab_mul (hA i (by omega)) (hr 0 (by omega))) (ab_mul (hA (3 + i) (by omega)) (hr 1 (by omega)))) (ab_mul (hA (6 + i) (by omega)) (hr 2 (by omega)))
theorem cat6_bd {c p : Nat → Int} (hc : ∀ i, i < 6 → ab (c i) 500) (hp : ∀ i, i < 3 → ab (p i) 500) : ab (cat6 c p) 750000000 := by
  have h : ∀ i j k, i < 6 → j < 3 → k < 3 → ab (c i * p j * p k) (500 * 500 * 500) := fun i j k hi hj hk => ab_mul (ab_mul (hc i hi) (hp j hj)) (hp k hk)
  exact ab_le (ab_add (ab_add (ab_add (ab_add (ab_add (h 0 0 0 (by omega) (by omega) (by omega)) (h 1 0 1 (by omega) (by omega) (by omega))) (h 2 1 1 (by omega) (by omega) (by omega))) (h 3 0 2 (by omega) (by omega) (by omega))) (h 4 1 2 (by omega) (by omega) (by omega))) (h 5 2 2 (by omega) (by omega) (by omega))) (by decide)
theorem vN {n : Nat} {b : Int} (h : b = n) : some (Value.int (nI n)) = some (.int (zi b)) := by rw [h, zi_nI]
theorem wd_3 (s : Nat) : 3 ≤ wd s := by unfold wd; split; omega; split <;> omega
theorem srt_bd {S : SO} (h2 : ∀ k, k < S.1 → S.2.1 k ≤ 2) (h60 : S.1 ≤ 60) (k : Int32) : -1 ≤ srtI S k.toInt ∧ srtI S k.toInt ≤ 2 := by
  rcases srt3 h2 h60 k with ⟨h, _⟩ | ⟨b, rfl, _, _, ⟨_, h⟩ | ⟨_, h⟩ | ⟨_, h⟩⟩ <;> rw [h] <;> omega
theorem srt_eq {S : SO} (h2 : ∀ k, k < S.1 → S.2.1 k ≤ 2) (h60 : S.1 ≤ 60) (k : Int32) (s : Nat) (hs : s ≤ 2) : zi (srtI S k.toInt) = nI s ↔ srtI S k.toInt = s := by
  have := srt_bd h2 h60 k
  rw [← Int32.toInt_inj, zi_to (by omega), nI_toInt (by omega)]
theorem srt_a {S : SO} (h60 : S.1 ≤ 60) {k : Int32} {s : Nat} (h : srtI S k.toInt = s) : ∃ a, k = nI a ∧ a < S.1 ∧ (nI a).toInt = a ∧ S.2.1 a = s := by
  obtain ⟨b, b1, b2, b3⟩ := srtI_nn h
  exact ⟨b, Int32.toInt_inj.mp (by rw [b2, nI_toInt (by omega)]), b1, nI_toInt (by omega), b3⟩
set_option maxHeartbeats 4000000 in
set_option maxRecDepth 100000 in
theorem k_on (l : Launch) (S : SS) (G0 : List xE) (hG : CInv S G0) (p q0 : Int32) : xM l yX10_on cX10_on 4 (some .int) rX10_on [.ref 0, .int p, .int q0] G0 (fun r9 G => r9 = some (.int (zi (sp_on S p.toInt q0.toInt))) ∧ CInv S G) := by
  obtain ⟨so, ce, mso, mce, rme, sme, n5, mks, q, f0, f1, f2, t0, t1, t2, we, pa, iv, tu, fo, hal, n6, va, le, mi, co, fr, eso, ece, be, af, bo, tr, sx, fi, se, re, p3, q3, r3, s3, rfl, hO, hO2, hM, hM4, hV, hW, hE, hE4, hE1⟩ := hG
  refine xM.of (by decide) (Nat.le_of_ble_eq_true rfl) (fun X hX => ?_)
  have h60 := hO.1
  have j0 : jr 0 := ⟨by omega, by omega⟩
  have bad : ¬ (srtI S.1 p.toInt = 0 ∧ (srtI S.1 q0.toInt = 1 ∨ srtI S.1 q0.toInt = 2)) → sp_on S p.toInt q0.toInt = -1 := fun h => by unfold sp_on; rw [if_neg h]
  have good : (srtI S.1 p.toInt = 0 ∧ (srtI S.1 q0.toInt = 1 ∨ srtI S.1 q0.toInt = 2)) → X 32 [some (.ref 0), some (.int p), some (.int q0), some (.int (zi (srtI S.1 q0.toInt)))] [] (GC (nI S.1.1) so ce (nI S.2.1.1) mso mce (nI S.2.2.1.1) rme (nI S.2.2.2.1.1) sme n5 mks q f0 f1 f2 t0 t1 t2 we pa iv tu fo hal n6 va le mi co fr (nI S.2.2.2.2.1) eso ece be af bo tr sx fi se re p3 q3 r3 s3) := by
    intro hc
    obtain ⟨a, ea, ha, ta, sa⟩ := srt_a hO.1 (k := p) (s := 0) hc.1
    rcases hc.2 with hq | hq
    · obtain ⟨b, eb, hb, tb, sb⟩ := srt_a hO.1 (k := q0) (s := 1) hq
      have es : sp_on S p.toInt q0.toInt = if dt3 (S.1.2.2 a) (S.1.2.2 b) = 0 then 1 else 0 := by
        unfold sp_on b01
        rw [if_pos hc, if_pos hq, ea, eb, ta, tb]
        rfl
      have jd : jr (dt3 (S.1.2.2 a) (S.1.2.2 b)) := ab_jr (dt3_bd (A := 500) (B := 500) (fun i hi => bd3 hO ha i hi) (fun i hi => bd3 hO hb i hi)) (by decide)
      rw [hq]
      subst ea
      subst eb
      refine hX.run (ft := ftX10) (ct := ctX10) (oc := []) kX10_on_ok ftX10_ok ctX10_ok xnoc [] [] [] 100 ?_
      refine hX.callV [1, 2, 3, 55] [] (k_load l S.1 60 so ce hO a ha 3 (wd_3 _) _) yX8_load_ok lkX10_103 ivX8_load slX8_load ⟨rfl, rfl, by decide, by decide⟩ (kX10_on_ok.at 41 rfl) rfl rfl (by decide) rfl rfl rfl ⟨rfl, rfl, rfl, rfl, trivial⟩ rfl (fun _ _ q => by rw [q.2]; rfl) (fun r9 G1 q => ?_)
      obtain ⟨rfl, rfl⟩ := q
      refine hX.run (ft := ftX10) (ct := ctX10) (oc := []) kX10_on_ok ftX10_ok ctX10_ok xnoc [] [46] [] 100 ?_
      refine hX.callV [1, 2, 3, 56] [] (k_load l S.1 60 so ce hO b hb 3 (by rw [sb]; exact Nat.le_refl _) _) yX8_load_ok lkX10_103 ivX8_load slX8_load ⟨rfl, rfl, by decide, by decide⟩ (kX10_on_ok.at 58 rfl) rfl rfl (by decide) rfl rfl rfl ⟨rfl, rfl, rfl, rfl, trivial⟩ rfl (fun _ _ q => by rw [q.2]; rfl) (fun r9 G1 q => ?_)
      obtain ⟨rfl, rfl⟩ := q
      refine hX.run (ft := ftX10) (ct := ctX10) (oc := []) kX10_on_ok ftX10_ok ctX10_ok xnoc [] [] [] 100 ?_
      refine hX.callS [55, 56] [] (k_dot l (S.1.2.2 a) (S.1.2.2 b)) yX7_dot_ok lkX10_116 ssX7_dot ⟨rfl, rfl, by decide, by decide⟩ (kX10_on_ok.at 69 rfl) rfl rfl (by decide) ⟨rfl, rfl, trivial⟩ rfl (fun _ _ q => by rw [q.2]) (fun r9 G1 q => ?_)
      obtain ⟨rfl, rfl⟩ := q
      refine hX.run (ft := ftX10) (ct := ctX10) (oc := []) kX10_on_ok ftX10_ok ctX10_ok xnoc [] [] [] 100 ?_
      refine ⟨fun h => ?_, fun h => ?_⟩
      · have h1 : zl (dt3 (S.1.2.2 a) (S.1.2.2 b)) = zl 0 := lgc_eq.mp h
        rw [zl_eq jd j0] at h1
        exact ⟨vI (a := 1) (by rw [es, if_pos h1]), ⟨_, _, _, _, _, _, _, _, _, _, _, _, _, _, _, _, _, _, _, _, _, _, _, _, _, _, _, _, _, _, _, _, _, _, _, _, _, _, _, _, _, rfl, hO, hO2, hM, hM4, hV, hW, hE, hE4, hE1⟩⟩
      · have h1 : ¬ dt3 (S.1.2.2 a) (S.1.2.2 b) = 0 := fun q => h (lgc_eq.mpr (show zl (dt3 (S.1.2.2 a) (S.1.2.2 b)) = zl 0 by rw [q]))
        exact ⟨vI (a := 0) (by rw [es, if_neg h1]), ⟨_, _, _, _, _, _, _, _, _, _, _, _, _, _, _, _, _, _, _, _, _, _, _, _, _, _, _, _, _, _, _, _, _, _, _, _, _, _, _, _, _, rfl, hO, hO2, hM, hM4, hV, hW, hE, hE4, hE1⟩⟩
    · obtain ⟨b, eb, hb, tb, sb⟩ := srt_a hO.1 (k := q0) (s := 2) hq
      have es : sp_on S p.toInt q0.toInt = if cat6 (S.1.2.2 b) (S.1.2.2 a) = 0 then 1 else 0 := by
        unfold sp_on b01
        rw [if_pos hc, if_neg (by omega), ea, eb, ta, tb]
        rfl
      have jd : jr (cat6 (S.1.2.2 b) (S.1.2.2 a)) := ab_jr (cat6_bd (fun i hi => (hO.2.2 b i hb (by rw [sb]; exact hi)).2) (fun i hi => bd3 hO ha i hi)) (by decide)
      rw [hq]
      subst ea
      subst eb
      refine hX.run (ft := ftX10) (ct := ctX10) (oc := []) kX10_on_ok ftX10_ok ctX10_ok xnoc [] [] [] 100 ?_
      refine hX.callV [1, 2, 3, 55] [] (k_load l S.1 60 so ce hO a ha 3 (wd_3 _) _) yX8_load_ok lkX10_103 ivX8_load slX8_load ⟨rfl, rfl, by decide, by decide⟩ (kX10_on_ok.at 41 rfl) rfl rfl (by decide) rfl rfl rfl ⟨rfl, rfl, rfl, rfl, trivial⟩ rfl (fun _ _ q => by rw [q.2]; rfl) (fun r9 G1 q => ?_)
      obtain ⟨rfl, rfl⟩ := q
      refine hX.run (ft := ftX10) (ct := ctX10) (oc := []) kX10_on_ok ftX10_ok ctX10_ok xnoc [] [46] [] 100 ?_
      refine hX.callV [1, 2, 3, 51] [] (k_load l S.1 60 so ce hO b hb 6 (by rw [sb]; exact Nat.le_refl _) _) yX8_load_ok lkX10_103 ivX8_load slX8_load ⟨rfl, rfl, by decide, by decide⟩ (kX10_on_ok.at 92 rfl) rfl rfl (by decide) rfl rfl rfl ⟨rfl, rfl, rfl, rfl, trivial⟩ rfl (fun _ _ q => by rw [q.2]; rfl) (fun r9 G1 q => ?_)
      obtain ⟨rfl, rfl⟩ := q
      refine hX.run (ft := ftX10) (ct := ctX10) (oc := []) kX10_on_ok ftX10_ok ctX10_ok xnoc [] [] [] 100 ?_
      refine hX.callS [51, 55] [] (k_conicAt l (S.1.2.2 b) (S.1.2.2 a)) yX7_conicAt_ok lkX10_120 ssX7_conicAt ⟨rfl, rfl, by decide, by decide⟩ (kX10_on_ok.at 103 rfl) rfl rfl (by decide) ⟨rfl, rfl, trivial⟩ rfl (fun _ _ q => by rw [q.2]) (fun r9 G1 q => ?_)
      obtain ⟨rfl, rfl⟩ := q
      refine hX.run (ft := ftX10) (ct := ctX10) (oc := []) kX10_on_ok ftX10_ok ctX10_ok xnoc [] [] [] 100 ?_
      refine ⟨fun h => ?_, fun h => ?_⟩
      · have h1 : zl (cat6 (S.1.2.2 b) (S.1.2.2 a)) = zl 0 := lgc_eq.mp h
        rw [zl_eq jd j0] at h1
        exact ⟨vI (a := 1) (by rw [es, if_pos h1]), ⟨_, _, _, _, _, _, _, _, _, _, _, _, _, _, _, _, _, _, _, _, _, _, _, _, _, _, _, _, _, _, _, _, _, _, _, _, _, _, _, _, _, rfl, hO, hO2, hM, hM4, hV, hW, hE, hE4, hE1⟩⟩
      · have h1 : ¬ cat6 (S.1.2.2 b) (S.1.2.2 a) = 0 := fun q => h (lgc_eq.mpr (show zl (cat6 (S.1.2.2 b) (S.1.2.2 a)) = zl 0 by rw [q]))
        exact ⟨vI (a := 0) (by rw [es, if_neg h1]), ⟨_, _, _, _, _, _, _, _, _, _, _, _, _, _, _, _, _, _, _, _, _, _, _, _, _, _, _, _, _, _, _, _, _, _, _, _, _, _, _, _, _, rfl, hO, hO2, hM, hM4, hV, hW, hE, hE4, hE1⟩⟩
  refine hX.run (ft := ftX10) (ct := ctX10) (oc := []) kX10_on_ok ftX10_ok ctX10_ok xnoc [] [] [] 100 ?_
  refine hX.callV [1, 2, 3] [] (k_sortOf l S.1 60 so ce hO q0) yX8_sortOf_ok lkX10_95 ivX8_sortOf slX8_sortOf ⟨rfl, rfl, by decide, by decide⟩ (kX10_on_ok.at 5 rfl) rfl rfl (by decide) rfl rfl rfl ⟨rfl, rfl, rfl, trivial⟩ rfl (fun _ _ q => by rw [q.2]) (fun r9 G1 q => ?_)
  obtain ⟨rfl, rfl⟩ := q
  refine hX.run (ft := ftX10) (ct := ctX10) (oc := []) kX10_on_ok ftX10_ok ctX10_ok xnoc [] [] [] 100 ?_
  refine hX.callV [1, 2, 3] [] (k_sortOf l S.1 60 so ce hO p) yX8_sortOf_ok lkX10_95 ivX8_sortOf slX8_sortOf ⟨rfl, rfl, by decide, by decide⟩ (kX10_on_ok.at 14 rfl) rfl rfl (by decide) rfl rfl rfl ⟨rfl, rfl, rfl, trivial⟩ rfl (fun _ _ q => by rw [q.2]) (fun r9 G1 q => ?_)
  obtain ⟨rfl, rfl⟩ := q
  refine hX.run (ft := ftX10) (ct := ctX10) (oc := []) kX10_on_ok ftX10_ok ctX10_ok xnoc [32] [] [] 100 ?_
  refine ⟨fun h => ?_, fun h => ?_⟩
  rotate_left
  · have h1 : ¬ srtI S.1 p.toInt = 0 := fun q => h (by rw [q]; rfl)
    exact ⟨vI (bad (fun q => h1 q.1)), ⟨_, _, _, _, _, _, _, _, _, _, _, _, _, _, _, _, _, _, _, _, _, _, _, _, _, _, _, _, _, _, _, _, _, _, _, _, _, _, _, _, _, rfl, hO, hO2, hM, hM4, hV, hW, hE, hE4, hE1⟩⟩
  have hp : srtI S.1 p.toInt = 0 := (srt_eq hO2 hO.1 p 0 (by omega)).mp h
  refine ⟨fun h => ?_, fun h => ?_⟩
  · exact good ⟨hp, Or.inl ((srt_eq hO2 hO.1 q0 1 (by omega)).mp h)⟩
  have n1 : ¬ srtI S.1 q0.toInt = 1 := fun q => h ((srt_eq hO2 hO.1 q0 1 (by omega)).mpr q)
  refine ⟨fun h => ?_, fun h => ?_⟩
  · exact good ⟨hp, Or.inr ((srt_eq hO2 hO.1 q0 2 (by omega)).mp h)⟩
  have n2 : ¬ srtI S.1 q0.toInt = 2 := fun q => h ((srt_eq hO2 hO.1 q0 2 (by omega)).mpr q)
  exact ⟨vI (bad (fun q => by rcases q.2 with q | q <;> contradiction)), ⟨_, _, _, _, _, _, _, _, _, _, _, _, _, _, _, _, _, _, _, _, _, _, _, _, _, _, _, _, _, _, _, _, _, _, _, _, _, _, _, _, _, rfl, hO, hO2, hM, hM4, hV, hW, hE, hE4, hE1⟩⟩
set_option maxHeartbeats 4000000 in
set_option maxRecDepth 100000 in
theorem k_shape (l : Launch) (S : SS) (G0 : List xE) (hG : CInv S G0) (k : Int32) : xM l yX10_shape cX10_shape 2 (some .int) rX10_shape [.ref 0, .int k] G0 (fun r9 G => r9 = some (.int (zi (sp_shape S k.toInt))) ∧ CInv S G) := by
  obtain ⟨so, ce, mso, mce, rme, sme, n5, mks, q, f0, f1, f2, t0, t1, t2, we, pa, iv, tu, fo, hal, n6, va, le, mi, co, fr, eso, ece, be, af, bo, tr, sx, fi, se, re, p3, q3, r3, s3, rfl, hO, hO2, hM, hM4, hV, hW, hE, hE4, hE1⟩ := hG
  refine xM.of (by decide) (Nat.le_of_ble_eq_true rfl) (fun X hX => ?_)
  have h60 := hO.1
  refine hX.run (ft := ftX10) (ct := ctX10) (oc := []) kX10_shape_ok ftX10_ok ctX10_ok xnoc [] [] [] 100 ?_
  refine hX.callV [1, 2, 3] [] (k_sortOf l S.1 60 so ce hO k) yX8_sortOf_ok lkX10_95 ivX8_sortOf slX8_sortOf ⟨rfl, rfl, by decide, by decide⟩ (kX10_shape_ok.at 5 rfl) rfl rfl (by decide) rfl rfl rfl ⟨rfl, rfl, rfl, trivial⟩ rfl (fun _ _ q => by rw [q.2]) (fun r9 G1 q => ?_)
  obtain ⟨rfl, rfl⟩ := q
  refine hX.run (ft := ftX10) (ct := ctX10) (oc := []) kX10_shape_ok ftX10_ok ctX10_ok xnoc [] [] [] 100 ?_
  refine ⟨fun h => ?_, fun h => ?_⟩
  · have hq : srtI S.1 k.toInt = 2 := (srt_eq hO2 hO.1 k 2 (by omega)).mp h
    obtain ⟨b, rfl, hb, tb, sb⟩ := srt_a hO.1 (k := k) (s := 2) hq
    have es : sp_shape S (nI b).toInt = shp (S.1.2.2 b) := by
      unfold sp_shape
      rw [if_pos hq, tb]
      rfl
    refine hX.callV [1, 2, 3, 51] [] (k_load l S.1 60 so ce hO b hb 6 (by rw [sb]; exact Nat.le_refl _) _) yX8_load_ok lkX10_103 ivX8_load slX8_load ⟨rfl, rfl, by decide, by decide⟩ (kX10_shape_ok.at 23 rfl) rfl rfl (by decide) rfl rfl rfl ⟨rfl, rfl, rfl, rfl, trivial⟩ rfl (fun _ _ q => by rw [q.2]; rfl) (fun r9 G1 q => ?_)
    obtain ⟨rfl, rfl⟩ := q
    refine hX.run (ft := ftX10) (ct := ctX10) (oc := []) kX10_shape_ok ftX10_ok ctX10_ok xnoc [] [] [] 100 ?_
    refine hX.callS [51, 52] [] (k_shapeOf l (S.1.2.2 b) (fun i hi => (hO.2.2 b i hb (by rw [sb]; exact hi)).2) fi) yX7_shapeOf_ok lkX10_123 ssX7_shapeOf ⟨rfl, rfl, by decide, by decide⟩ (kX10_shape_ok.at 34 rfl) rfl rfl (by decide) ⟨rfl, rfl, trivial⟩ rfl (fun _ _ q => by rw [q.2]; rfl) (fun r9 G1 q => ?_)
    obtain ⟨rfl, rfl⟩ := q
    refine hX.run (ft := ftX10) (ct := ctX10) (oc := []) kX10_shape_ok ftX10_ok ctX10_ok xnoc [] [] [] 100 ?_
    exact ⟨vI es, ⟨_, _, _, _, _, _, _, _, _, _, _, _, _, _, _, _, _, _, _, _, _, _, _, _, _, _, _, _, _, _, _, _, _, _, _, _, _, _, _, _, _, rfl, hO, hO2, hM, hM4, hV, hW, hE, hE4, hE1⟩⟩
  · have h1 : ¬ srtI S.1 k.toInt = 2 := fun q => h ((srt_eq hO2 hO.1 k 2 (by omega)).mpr q)
    have es : sp_shape S k.toInt = -1 := by unfold sp_shape; rw [if_neg h1]
    exact ⟨vI es, ⟨_, _, _, _, _, _, _, _, _, _, _, _, _, _, _, _, _, _, _, _, _, _, _, _, _, _, _, _, _, _, _, _, _, _, _, _, _, _, _, _, _, rfl, hO, hO2, hM, hM4, hV, hW, hE, hE4, hE1⟩⟩
theorem addM_ge (M : SM) (z : Nat → Int) : M.1 ≤ (addM M z).2.1 := by
  unfold addM
  split
  · cases fnd (hitM M.2 (lrow z 9)) M.1 0 with
    | some k => exact Nat.le_refl _
    | none =>
      dsimp only
      split
      · exact Nat.le_refl _
      · exact Nat.le_succ _
  · exact Nat.le_refl _
set_option maxHeartbeats 4000000 in
set_option maxRecDepth 100000 in
theorem k_then (l : Launch) (S : SS) (G0 : List xE) (hG : CInv S G0) (hgood : goodM S.2.1) (k i : Int32) : xM l yX10_then cX10_then 3 (some .int) rX10_then [.ref 0, .int k, .int i] G0 (fun r9 G => r9 = some (.int (zi (sp_then S k.toInt i.toInt).1)) ∧ CInv (sp_then S k.toInt i.toInt).2 G) := by
  obtain ⟨so, ce, mso, mce, rme, sme, n5, mks, q, f0, f1, f2, t0, t1, t2, we, pa, iv, tu, fo, hal, n6, va, le, mi, co, fr, eso, ece, be, af, bo, tr, sx, fi, se, re, p3, q3, r3, s3, rfl, hO, hO2, hM, hM4, hV, hW, hE, hE4, hE1⟩ := hG
  refine xM.of (by decide) (Nat.le_of_ble_eq_true rfl) (fun X hX => ?_)
  by_cases hk : 0 ≤ k.toInt ∧ k.toInt < S.2.1.1
  rotate_left
  · have e : sp_then S k.toInt i.toInt = (-1, S) := by unfold sp_then; rw [if_neg (fun q => hk q.1)]
    refine hX.run (ft := ftX10) (ct := ctX10) (oc := []) kX10_then_ok ftX10_ok ctX10_ok xnoc [] [] [] 100 ?_
    refine hX.callV [4, 5, 6] [] (k_has l S.2.1.1 40 (by omega) mso mce k) yX8_has_ok lkX10_135 ivX8_has slX8_has ⟨rfl, rfl, by decide, by decide⟩ (kX10_then_ok.at 5 rfl) rfl rfl (by decide) rfl rfl rfl ⟨rfl, rfl, rfl, trivial⟩ rfl (fun _ _ q => by rw [q.2]) (fun r9 G1 q => ?_)
    obtain ⟨rfl, rfl⟩ := q
    rw [decide_eq_false hk]
    refine hX.run (ft := ftX10) (ct := ctX10) (oc := []) kX10_then_ok ftX10_ok ctX10_ok xnoc [] [8] [] 100 ?_
    rw [e]
    exact ⟨rfl, ⟨_, _, _, _, _, _, _, _, _, _, _, _, _, _, _, _, _, _, _, _, _, _, _, _, _, _, _, _, _, _, _, _, _, _, _, _, _, _, _, _, _, rfl, hO, hO2, hM, hM4, hV, hW, hE, hE4, hE1⟩⟩
  by_cases hi : 0 ≤ i.toInt ∧ i.toInt < S.2.1.1
  rotate_left
  · have e : sp_then S k.toInt i.toInt = (-1, S) := by unfold sp_then; rw [if_neg (fun q => hi q.2)]
    refine hX.run (ft := ftX10) (ct := ctX10) (oc := []) kX10_then_ok ftX10_ok ctX10_ok xnoc [] [] [] 100 ?_
    refine hX.callV [4, 5, 6] [] (k_has l S.2.1.1 40 (by omega) mso mce k) yX8_has_ok lkX10_135 ivX8_has slX8_has ⟨rfl, rfl, by decide, by decide⟩ (kX10_then_ok.at 5 rfl) rfl rfl (by decide) rfl rfl rfl ⟨rfl, rfl, rfl, trivial⟩ rfl (fun _ _ q => by rw [q.2]) (fun r9 G1 q => ?_)
    obtain ⟨rfl, rfl⟩ := q
    rw [decide_eq_true hk]
    refine hX.run (ft := ftX10) (ct := ctX10) (oc := []) kX10_then_ok ftX10_ok ctX10_ok xnoc [] [8] [] 100 ?_
    refine hX.callV [4, 5, 6] [] (k_has l S.2.1.1 40 (by omega) mso mce i) yX8_has_ok lkX10_135 ivX8_has slX8_has ⟨rfl, rfl, by decide, by decide⟩ (kX10_then_ok.at 16 rfl) rfl rfl (by decide) rfl rfl rfl ⟨rfl, rfl, rfl, trivial⟩ rfl (fun _ _ q => by rw [q.2]) (fun r9 G1 q => ?_)
    obtain ⟨rfl, rfl⟩ := q
    rw [decide_eq_false hi]
    refine hX.run (ft := ftX10) (ct := ctX10) (oc := []) kX10_then_ok ftX10_ok ctX10_ok xnoc [] [19] [] 100 ?_
    rw [e]
    exact ⟨rfl, ⟨_, _, _, _, _, _, _, _, _, _, _, _, _, _, _, _, _, _, _, _, _, _, _, _, _, _, _, _, _, _, _, _, _, _, _, _, _, _, _, _, _, rfl, hO, hO2, hM, hM4, hV, hW, hE, hE4, hE1⟩⟩
  obtain ⟨a, rfl, ha, ea⟩ := i32_of (by omega) hk
  obtain ⟨b, rfl, hb, eb⟩ := i32_of (by omega) hi
  have e : sp_then S (nI a).toInt (nI b).toInt = withM (addM S.2.1 (mul9 (S.2.1.2 b) (S.2.1.2 a))) S := by
    unfold sp_then
    rw [if_pos ⟨hk, hi⟩, ea, eb]
    rfl
  have hd : det9 (mul9 (S.2.1.2 b) (S.2.1.2 a)) ≠ 0 := by
    rw [tdet]
    exact Int.mul_ne_zero (hgood _ hb) (hgood _ ha)
  refine hX.run (ft := ftX10) (ct := ctX10) (oc := []) kX10_then_ok ftX10_ok ctX10_ok xnoc [] [] [] 100 ?_
  refine hX.callV [4, 5, 6] [] (k_has l S.2.1.1 40 (by omega) mso mce (nI a)) yX8_has_ok lkX10_135 ivX8_has slX8_has ⟨rfl, rfl, by decide, by decide⟩ (kX10_then_ok.at 5 rfl) rfl rfl (by decide) rfl rfl rfl ⟨rfl, rfl, rfl, trivial⟩ rfl (fun _ _ q => by rw [q.2]) (fun r9 G1 q => ?_)
  obtain ⟨rfl, rfl⟩ := q
  rw [decide_eq_true hk]
  refine hX.run (ft := ftX10) (ct := ctX10) (oc := []) kX10_then_ok ftX10_ok ctX10_ok xnoc [] [8] [] 100 ?_
  refine hX.callV [4, 5, 6] [] (k_has l S.2.1.1 40 (by omega) mso mce (nI b)) yX8_has_ok lkX10_135 ivX8_has slX8_has ⟨rfl, rfl, by decide, by decide⟩ (kX10_then_ok.at 16 rfl) rfl rfl (by decide) rfl rfl rfl ⟨rfl, rfl, rfl, trivial⟩ rfl (fun _ _ q => by rw [q.2]) (fun r9 G1 q => ?_)
  obtain ⟨rfl, rfl⟩ := q
  rw [decide_eq_true hi]
  refine hX.run (ft := ftX10) (ct := ctX10) (oc := []) kX10_then_ok ftX10_ok ctX10_ok xnoc [] [19] [] 100 ?_
  refine hX.callV [4, 5, 6, 52] [] (k_load l (toO S.2.1) 40 mso mce hM a ha 9 (Nat.le_refl 9) _) yX8_load_ok lkX10_103 ivX8_load slX8_load ⟨rfl, rfl, by decide, by decide⟩ (kX10_then_ok.at 33 rfl) rfl rfl (by decide) rfl rfl rfl ⟨rfl, rfl, rfl, rfl, trivial⟩ rfl (fun _ _ q => by rw [q.2]; rfl) (fun r9 G1 q => ?_)
  obtain ⟨rfl, rfl⟩ := q
  refine hX.run (ft := ftX10) (ct := ctX10) (oc := []) kX10_then_ok ftX10_ok ctX10_ok xnoc [] [] [] 100 ?_
  refine hX.callV [4, 5, 6, 53] [] (k_load l (toO S.2.1) 40 mso mce hM b hb 9 (Nat.le_refl 9) _) yX8_load_ok lkX10_103 ivX8_load slX8_load ⟨rfl, rfl, by decide, by decide⟩ (kX10_then_ok.at 45 rfl) rfl rfl (by decide) rfl rfl rfl ⟨rfl, rfl, rfl, rfl, trivial⟩ rfl (fun _ _ q => by rw [q.2]; rfl) (fun r9 G1 q => ?_)
  obtain ⟨rfl, rfl⟩ := q
  refine hX.run (ft := ftX10) (ct := ctX10) (oc := []) kX10_then_ok ftX10_ok ctX10_ok xnoc [] [] [] 100 ?_
  refine hX.callS [53, 52, 54] [] (k_product l (S.2.1.2 b) (S.2.1.2 a) re) yX9_product_ok lkX10_168 ssX9_product ⟨rfl, rfl, by decide, by decide⟩ (kX10_then_ok.at 60 rfl) rfl rfl (by decide) ⟨rfl, rfl, rfl, trivial⟩ rfl (fun _ _ q => by rw [q.2]; rfl) (fun r9 G1 q => ?_)
  obtain ⟨rfl, rfl⟩ := q
  refine hX.run (ft := ftX10) (ct := ctX10) (oc := []) kX10_then_ok ftX10_ok ctX10_ok xnoc [] [] [] 100 ?_
  refine hX.callV0 (rest := []) (k_keepMap l (nI S.1.1) so ce mso mce (nI S.2.2.1.1) rme (nI S.2.2.2.1.1) sme n5 mks q f0 f1 f2 t0 t1 t2 we pa iv tu fo hal n6 va le mi co fr (nI S.2.2.2.2.1) eso ece be af bo tr sx (fun i => zl (S.2.1.2 a i)) (fun i => zl (S.2.1.2 b i)) p3 q3 r3 s3 S.2.1 hM hM4 (mul9 (S.2.1.2 b) (S.2.1.2 a)) (fun i hi => ab_jr (mul9_bd (fun i hi => toO_bd hM hb hi) (fun i hi => toO_bd hM ha hi) i hi) (by decide)) (det_ne hd)) yX10_keepMap_ok lkX10_159 ivX10_keepMap slX10_keepMap ⟨rfl, rfl, by decide, by decide⟩ (kX10_then_ok.at 68 rfl) rfl rfl (by decide) rfl rfl rfl (fun _ _ q => by obtain ⟨_, _, _, -, -, rfl⟩ := q; rfl) (fun r9 G1 q => ?_)
  obtain ⟨so2, ce2, x2, rfl, q2, rfl⟩ := q
  refine hX.run (ft := ftX10) (ct := ctX10) (oc := []) kX10_then_ok ftX10_ok ctX10_ok xnoc [] [] [] 100 ?_
  rw [e]
  exact ⟨rfl, ⟨_, _, _, _, _, _, _, _, _, _, _, _, _, _, _, _, _, _, _, _, _, _, _, _, _, _, _, _, _, _, _, _, _, _, _, _, _, _, _, _, _, rfl, hO, hO2, q2, addM_40 hM4 _, hV, hW.wide (addM_ge _ _), hE, hE4, hE1⟩⟩
set_option maxHeartbeats 4000000 in
set_option maxRecDepth 100000 in
theorem k_back (l : Launch) (S : SS) (G0 : List xE) (hG : CInv S G0) (hgood : goodM S.2.1) (k : Int32) : xM l yX10_back cX10_back 2 (some .int) rX10_back [.ref 0, .int k] G0 (fun r9 G => r9 = some (.int (zi (sp_back S k.toInt).1)) ∧ CInv (sp_back S k.toInt).2 G) := by
  obtain ⟨so, ce, mso, mce, rme, sme, n5, mks, q, f0, f1, f2, t0, t1, t2, we, pa, iv, tu, fo, hal, n6, va, le, mi, co, fr, eso, ece, be, af, bo, tr, sx, fi, se, re, p3, q3, r3, s3, rfl, hO, hO2, hM, hM4, hV, hW, hE, hE4, hE1⟩ := hG
  refine xM.of (by decide) (Nat.le_of_ble_eq_true rfl) (fun X hX => ?_)
  by_cases hk : 0 ≤ k.toInt ∧ k.toInt < S.2.1.1
  rotate_left
  · have e : sp_back S k.toInt = (-1, S) := by unfold sp_back; rw [if_neg hk]
    refine hX.run (ft := ftX10) (ct := ctX10) (oc := []) kX10_back_ok ftX10_ok ctX10_ok xnoc [] [] [] 100 ?_
    refine hX.callV [4, 5, 6] [] (k_has l S.2.1.1 40 (by omega) mso mce k) yX8_has_ok lkX10_135 ivX8_has slX8_has ⟨rfl, rfl, by decide, by decide⟩ (kX10_back_ok.at 5 rfl) rfl rfl (by decide) rfl rfl rfl ⟨rfl, rfl, rfl, trivial⟩ rfl (fun _ _ q => by rw [q.2]) (fun r9 G1 q => ?_)
    obtain ⟨rfl, rfl⟩ := q
    rw [decide_eq_false hk]
    refine hX.run (ft := ftX10) (ct := ctX10) (oc := []) kX10_back_ok ftX10_ok ctX10_ok xnoc [] [8] [] 100 ?_
    rw [e]
    exact ⟨rfl, ⟨_, _, _, _, _, _, _, _, _, _, _, _, _, _, _, _, _, _, _, _, _, _, _, _, _, _, _, _, _, _, _, _, _, _, _, _, _, _, _, _, _, rfl, hO, hO2, hM, hM4, hV, hW, hE, hE4, hE1⟩⟩
  obtain ⟨a, rfl, ha, ea⟩ := i32_of (by omega) hk
  have e : sp_back S (nI a).toInt = withM (addM S.2.1 (adj9 (S.2.1.2 a))) S := by
    unfold sp_back
    rw [if_pos hk, ea]
    rfl
  have hd : det9 (adj9 (S.2.1.2 a)) ≠ 0 := by
    rw [tadj]
    exact Int.mul_ne_zero (hgood _ ha) (hgood _ ha)
  refine hX.run (ft := ftX10) (ct := ctX10) (oc := []) kX10_back_ok ftX10_ok ctX10_ok xnoc [] [] [] 100 ?_
  refine hX.callV [4, 5, 6] [] (k_has l S.2.1.1 40 (by omega) mso mce (nI a)) yX8_has_ok lkX10_135 ivX8_has slX8_has ⟨rfl, rfl, by decide, by decide⟩ (kX10_back_ok.at 5 rfl) rfl rfl (by decide) rfl rfl rfl ⟨rfl, rfl, rfl, trivial⟩ rfl (fun _ _ q => by rw [q.2]) (fun r9 G1 q => ?_)
  obtain ⟨rfl, rfl⟩ := q
  rw [decide_eq_true hk]
  refine hX.run (ft := ftX10) (ct := ctX10) (oc := []) kX10_back_ok ftX10_ok ctX10_ok xnoc [] [8] [] 100 ?_
  refine hX.callV [4, 5, 6, 52] [] (k_load l (toO S.2.1) 40 mso mce hM a ha 9 (Nat.le_refl 9) _) yX8_load_ok lkX10_103 ivX8_load slX8_load ⟨rfl, rfl, by decide, by decide⟩ (kX10_back_ok.at 22 rfl) rfl rfl (by decide) rfl rfl rfl ⟨rfl, rfl, rfl, rfl, trivial⟩ rfl (fun _ _ q => by rw [q.2]; rfl) (fun r9 G1 q => ?_)
  obtain ⟨rfl, rfl⟩ := q
  refine hX.run (ft := ftX10) (ct := ctX10) (oc := []) kX10_back_ok ftX10_ok ctX10_ok xnoc [] [] [] 100 ?_
  refine hX.callS [52, 54] [] (k_adjugate l (S.2.1.2 a) re) yX9_adjugate_ok lkX10_173 ssX9_adjugate ⟨rfl, rfl, by decide, by decide⟩ (kX10_back_ok.at 33 rfl) rfl rfl (by decide) ⟨rfl, rfl, trivial⟩ rfl (fun _ _ q => by rw [q.2]; rfl) (fun r9 G1 q => ?_)
  obtain ⟨rfl, rfl⟩ := q
  refine hX.run (ft := ftX10) (ct := ctX10) (oc := []) kX10_back_ok ftX10_ok ctX10_ok xnoc [] [] [] 100 ?_
  refine hX.callV0 (rest := []) (k_keepMap l (nI S.1.1) so ce mso mce (nI S.2.2.1.1) rme (nI S.2.2.2.1.1) sme n5 mks q f0 f1 f2 t0 t1 t2 we pa iv tu fo hal n6 va le mi co fr (nI S.2.2.2.2.1) eso ece be af bo tr sx (fun i => zl (S.2.1.2 a i)) se p3 q3 r3 s3 S.2.1 hM hM4 (adj9 (S.2.1.2 a)) (fun i hi => ab_jr (adj9_bd2 (fun i hi => toO_bd hM ha hi) i) (by decide)) (det_ne hd)) yX10_keepMap_ok lkX10_159 ivX10_keepMap slX10_keepMap ⟨rfl, rfl, by decide, by decide⟩ (kX10_back_ok.at 41 rfl) rfl rfl (by decide) rfl rfl rfl (fun _ _ q => by obtain ⟨_, _, _, -, -, rfl⟩ := q; rfl) (fun r9 G1 q => ?_)
  obtain ⟨so2, ce2, x2, rfl, q2, rfl⟩ := q
  refine hX.run (ft := ftX10) (ct := ctX10) (oc := []) kX10_back_ok ftX10_ok ctX10_ok xnoc [] [] [] 100 ?_
  rw [e]
  exact ⟨rfl, ⟨_, _, _, _, _, _, _, _, _, _, _, _, _, _, _, _, _, _, _, _, _, _, _, _, _, _, _, _, _, _, _, _, _, _, _, _, _, _, _, _, _, rfl, hO, hO2, q2, addM_40 hM4 _, hV, hW.wide (addM_ge _ _), hE, hE4, hE1⟩⟩
set_option maxHeartbeats 4000000 in
set_option maxRecDepth 100000 in
theorem k_image (l : Launch) (S : SS) (G0 : List xE) (hG : CInv S G0) (himg : imgs S) (m k : Int32) : xM l yX10_image cX10_image 4 (some .int) rX10_image [.ref 0, .int m, .int k] G0 (fun r9 G => r9 = some (.int (zi (sp_image S m.toInt k.toInt).1)) ∧ CInv (sp_image S m.toInt k.toInt).2 G) := by
  obtain ⟨so, ce, mso, mce, rme, sme, n5, mks, q, f0, f1, f2, t0, t1, t2, we, pa, iv, tu, fo, hal, n6, va, le, mi, co, fr, eso, ece, be, af, bo, tr, sx, fi, se, re, p3, q3, r3, s3, rfl, hO, hO2, hM, hM4, hV, hW, hE, hE4, hE1⟩ := hG
  refine xM.of (by decide) (Nat.le_of_ble_eq_true rfl) (fun X hX => ?_)
  have h60 := hO.1
  have bad : ¬ ((0 ≤ m.toInt ∧ m.toInt < S.2.1.1) ∧ (0 ≤ k.toInt ∧ k.toInt < S.1.1)) → sp_image S m.toInt k.toInt = (-1, S) := by
    intro h
    unfold sp_image sp_imageO
    rw [if_neg h]
    rfl
  by_cases hm : 0 ≤ m.toInt ∧ m.toInt < S.2.1.1
  rotate_left
  · have eb := bad (fun q => hm q.1)
    refine hX.run (ft := ftX10) (ct := ctX10) (oc := []) kX10_image_ok ftX10_ok ctX10_ok xnoc [] [] [] 100 ?_
    refine hX.callV [1, 2, 3] [] (k_sortOf l S.1 60 so ce hO k) yX8_sortOf_ok lkX10_95 ivX8_sortOf slX8_sortOf ⟨rfl, rfl, by decide, by decide⟩ (kX10_image_ok.at 5 rfl) rfl rfl (by decide) rfl rfl rfl ⟨rfl, rfl, rfl, trivial⟩ rfl (fun _ _ q => by rw [q.2]) (fun r9 G1 q => ?_)
    obtain ⟨rfl, rfl⟩ := q
    refine hX.run (ft := ftX10) (ct := ctX10) (oc := []) kX10_image_ok ftX10_ok ctX10_ok xnoc [] [] [] 100 ?_
    refine hX.callV [4, 5, 6] [] (k_has l S.2.1.1 40 (by omega) mso mce m) yX8_has_ok lkX10_135 ivX8_has slX8_has ⟨rfl, rfl, by decide, by decide⟩ (kX10_image_ok.at 14 rfl) rfl rfl (by decide) rfl rfl rfl ⟨rfl, rfl, rfl, trivial⟩ rfl (fun _ _ q => by rw [q.2]) (fun r9 G1 q => ?_)
    obtain ⟨rfl, rfl⟩ := q
    rw [decide_eq_false hm]
    refine hX.run (ft := ftX10) (ct := ctX10) (oc := []) kX10_image_ok ftX10_ok ctX10_ok xnoc [] [17] [] 100 ?_
    rw [eb]
    exact ⟨rfl, ⟨_, _, _, _, _, _, _, _, _, _, _, _, _, _, _, _, _, _, _, _, _, _, _, _, _, _, _, _, _, _, _, _, _, _, _, _, _, _, _, _, _, rfl, hO, hO2, hM, hM4, hV, hW, hE, hE4, hE1⟩⟩
  obtain ⟨a, rfl, ha, ea⟩ := i32_of (by omega) hm
  rcases srt3 hO2 hO.1 k with ⟨h, hn⟩ | ⟨b, rfl, hb, eb, hs⟩
  · have eb := bad (fun q => hn q.2)
    refine hX.run (ft := ftX10) (ct := ctX10) (oc := []) kX10_image_ok ftX10_ok ctX10_ok xnoc [] [] [] 100 ?_
    refine hX.callV [1, 2, 3] [] (k_sortOf l S.1 60 so ce hO k) yX8_sortOf_ok lkX10_95 ivX8_sortOf slX8_sortOf ⟨rfl, rfl, by decide, by decide⟩ (kX10_image_ok.at 5 rfl) rfl rfl (by decide) rfl rfl rfl ⟨rfl, rfl, rfl, trivial⟩ rfl (fun _ _ q => by rw [q.2]) (fun r9 G1 q => ?_)
    obtain ⟨rfl, rfl⟩ := q
    rw [h]
    refine hX.run (ft := ftX10) (ct := ctX10) (oc := []) kX10_image_ok ftX10_ok ctX10_ok xnoc [] [] [] 100 ?_
    refine hX.callV [4, 5, 6] [] (k_has l S.2.1.1 40 (by omega) mso mce (nI a)) yX8_has_ok lkX10_135 ivX8_has slX8_has ⟨rfl, rfl, by decide, by decide⟩ (kX10_image_ok.at 14 rfl) rfl rfl (by decide) rfl rfl rfl ⟨rfl, rfl, rfl, trivial⟩ rfl (fun _ _ q => by rw [q.2]) (fun r9 G1 q => ?_)
    obtain ⟨rfl, rfl⟩ := q
    rw [decide_eq_true hm]
    refine hX.run (ft := ftX10) (ct := ctX10) (oc := []) kX10_image_ok ftX10_ok ctX10_ok xnoc [] [17, 22] [] 100 ?_
    rw [eb]
    exact ⟨rfl, ⟨_, _, _, _, _, _, _, _, _, _, _, _, _, _, _, _, _, _, _, _, _, _, _, _, _, _, _, _, _, _, _, _, _, _, _, _, _, _, _, _, _, rfl, hO, hO2, hM, hM4, hV, hW, hE, hE4, hE1⟩⟩
  have hne := himg a b ha hb
  have ei : ∀ s, S.1.2.1 b = s → sp_image S (nI a).toInt (nI b).toInt = withO (addO S.1 s (wid s) (imgv s (S.2.1.2 a) (S.1.2.2 b))) S := by
    rintro s rfl
    unfold sp_image sp_imageO
    rw [if_pos ⟨hm, by omega⟩, ea, eb]
    rfl
  have hx : ∀ i, i < 9 → ab (S.2.1.2 a i) 500 := fun i hi => toO_bd hM ha hi
  rcases hs with ⟨s1, s2⟩ | ⟨s1, s2⟩ | ⟨s1, s2⟩
  · have ei := ei 0 s1
    rw [show wid 0 = 3 from rfl, show imgv 0 (S.2.1.2 a) (S.1.2.2 b) = pimg (S.2.1.2 a) (S.1.2.2 b) from rfl] at ei
    rw [s1, show wid 0 = 3 from rfl, show imgv 0 (S.2.1.2 a) (S.1.2.2 b) = pimg (S.2.1.2 a) (S.1.2.2 b) from rfl] at hne
    have hz : ∀ i, i < 3 → jr (pimg (S.2.1.2 a) (S.1.2.2 b) i) := fun i hi => ab_jr (pimg_bd hx (fun i hi => bd3 hO hb i hi) i hi) (by decide)
    refine hX.run (ft := ftX10) (ct := ctX10) (oc := []) kX10_image_ok ftX10_ok ctX10_ok xnoc [] [] [] 100 ?_
    refine hX.callV [1, 2, 3] [] (k_sortOf l S.1 60 so ce hO (nI b)) yX8_sortOf_ok lkX10_95 ivX8_sortOf slX8_sortOf ⟨rfl, rfl, by decide, by decide⟩ (kX10_image_ok.at 5 rfl) rfl rfl (by decide) rfl rfl rfl ⟨rfl, rfl, rfl, trivial⟩ rfl (fun _ _ q => by rw [q.2]) (fun r9 G1 q => ?_)
    obtain ⟨rfl, rfl⟩ := q
    rw [s2]
    refine hX.run (ft := ftX10) (ct := ctX10) (oc := []) kX10_image_ok ftX10_ok ctX10_ok xnoc [] [] [] 100 ?_
    refine hX.callV [4, 5, 6] [] (k_has l S.2.1.1 40 (by omega) mso mce (nI a)) yX8_has_ok lkX10_135 ivX8_has slX8_has ⟨rfl, rfl, by decide, by decide⟩ (kX10_image_ok.at 14 rfl) rfl rfl (by decide) rfl rfl rfl ⟨rfl, rfl, rfl, trivial⟩ rfl (fun _ _ q => by rw [q.2]) (fun r9 G1 q => ?_)
    obtain ⟨rfl, rfl⟩ := q
    rw [decide_eq_true hm]
    refine hX.run (ft := ftX10) (ct := ctX10) (oc := []) kX10_image_ok ftX10_ok ctX10_ok xnoc [] [17, 22] [] 100 ?_
    refine hX.callV [4, 5, 6, 52] [] (k_load l (toO S.2.1) 40 mso mce hM a ha 9 (Nat.le_refl 9) _) yX8_load_ok lkX10_103 ivX8_load slX8_load ⟨rfl, rfl, by decide, by decide⟩ (kX10_image_ok.at 36 rfl) rfl rfl (by decide) rfl rfl rfl ⟨rfl, rfl, rfl, rfl, trivial⟩ rfl (fun _ _ q => by rw [q.2]; rfl) (fun r9 G1 q => ?_)
    obtain ⟨rfl, rfl⟩ := q
    refine hX.run (ft := ftX10) (ct := ctX10) (oc := []) kX10_image_ok ftX10_ok ctX10_ok xnoc [] [41] [] 100 ?_
    refine hX.callV [1, 2, 3, 55] [] (k_load l S.1 60 so ce hO b hb 3 (wd_3 _) _) yX8_load_ok lkX10_103 ivX8_load slX8_load ⟨rfl, rfl, by decide, by decide⟩ (kX10_image_ok.at 90 rfl) rfl rfl (by decide) rfl rfl rfl ⟨rfl, rfl, rfl, rfl, trivial⟩ rfl (fun _ _ q => by rw [q.2]; rfl) (fun r9 G1 q => ?_)
    obtain ⟨rfl, rfl⟩ := q
    refine hX.run (ft := ftX10) (ct := ctX10) (oc := []) kX10_image_ok ftX10_ok ctX10_ok xnoc [] [94] [] 100 ?_
    refine hX.callS [52, 55, 50] [] (k_apply l (S.2.1.2 a) (S.1.2.2 b) tr) yX9_apply_ok lkX10_180 ssX9_apply ⟨rfl, rfl, by decide, by decide⟩ (kX10_image_ok.at 109 rfl) rfl rfl (by decide) ⟨rfl, rfl, rfl, trivial⟩ rfl (fun _ _ q => by rw [q.2]; rfl) (fun r9 G1 q => ?_)
    obtain ⟨rfl, rfl⟩ := q
    refine hX.run (ft := ftX10) (ct := ctX10) (oc := []) kX10_image_ok ftX10_ok ctX10_ok xnoc [] [] [] 100 ?_
    refine hX.callV0 (rest := []) (k_keepObj_tr l so ce (nI S.2.1.1) mso mce (nI S.2.2.1.1) rme (nI S.2.2.2.1.1) sme n5 mks q f0 f1 f2 t0 t1 t2 we pa iv tu fo hal n6 va le mi co fr (nI S.2.2.2.2.1) eso ece be af bo sx (fun i => zl (S.2.1.2 a i)) se re (fun i => zl (S.1.2.2 b i)) q3 r3 s3 S.1 hO 0 (by omega) rfl (pimg (S.2.1.2 a) (S.1.2.2 b)) hz hne) yX10_keepObject_ok lkX10_113 ivX10_keepObject slX10_keepObject ⟨rfl, rfl, by decide, by decide⟩ (kX10_image_ok.at 140 rfl) rfl rfl (by decide) rfl rfl rfl (fun _ _ q => by obtain ⟨_, _, _, -, -, rfl⟩ := q; rfl) (fun r9 G1 q => ?_)
    obtain ⟨so2, ce2, x2, rfl, q2, rfl⟩ := q
    refine hX.run (ft := ftX10) (ct := ctX10) (oc := []) kX10_image_ok ftX10_ok ctX10_ok xnoc [] [] [] 100 ?_
    rw [ei]
    exact ⟨rfl, ⟨_, _, _, _, _, _, _, _, _, _, _, _, _, _, _, _, _, _, _, _, _, _, _, _, _, _, _, _, _, _, _, _, _, _, _, _, _, _, _, _, _, rfl, q2, addO_st (s := 0) _ _ (by omega) hO2, hM, hM4, hV.wide (addO_ge _ _ _ _), hW, hE, hE4, hE1⟩⟩
  · have ei := ei 1 s1
    rw [show wid 1 = 3 from rfl, show imgv 1 (S.2.1.2 a) (S.1.2.2 b) = limg (adj9 (S.2.1.2 a)) (S.1.2.2 b) from rfl] at ei
    rw [s1, show wid 1 = 3 from rfl, show imgv 1 (S.2.1.2 a) (S.1.2.2 b) = limg (adj9 (S.2.1.2 a)) (S.1.2.2 b) from rfl] at hne
    have hz : ∀ i, i < 3 → jr (limg (adj9 (S.2.1.2 a)) (S.1.2.2 b) i) := fun i hi => ab_jr (limg_bd (fun i hi => ab_le (adj9_bd2 hx i) (by decide)) (fun i hi => bd3 hO hb i hi) i hi) (by decide)
    refine hX.run (ft := ftX10) (ct := ctX10) (oc := []) kX10_image_ok ftX10_ok ctX10_ok xnoc [] [] [] 100 ?_
    refine hX.callV [1, 2, 3] [] (k_sortOf l S.1 60 so ce hO (nI b)) yX8_sortOf_ok lkX10_95 ivX8_sortOf slX8_sortOf ⟨rfl, rfl, by decide, by decide⟩ (kX10_image_ok.at 5 rfl) rfl rfl (by decide) rfl rfl rfl ⟨rfl, rfl, rfl, trivial⟩ rfl (fun _ _ q => by rw [q.2]) (fun r9 G1 q => ?_)
    obtain ⟨rfl, rfl⟩ := q
    rw [s2]
    refine hX.run (ft := ftX10) (ct := ctX10) (oc := []) kX10_image_ok ftX10_ok ctX10_ok xnoc [] [] [] 100 ?_
    refine hX.callV [4, 5, 6] [] (k_has l S.2.1.1 40 (by omega) mso mce (nI a)) yX8_has_ok lkX10_135 ivX8_has slX8_has ⟨rfl, rfl, by decide, by decide⟩ (kX10_image_ok.at 14 rfl) rfl rfl (by decide) rfl rfl rfl ⟨rfl, rfl, rfl, trivial⟩ rfl (fun _ _ q => by rw [q.2]) (fun r9 G1 q => ?_)
    obtain ⟨rfl, rfl⟩ := q
    rw [decide_eq_true hm]
    refine hX.run (ft := ftX10) (ct := ctX10) (oc := []) kX10_image_ok ftX10_ok ctX10_ok xnoc [] [17, 22] [] 100 ?_
    refine hX.callV [4, 5, 6, 52] [] (k_load l (toO S.2.1) 40 mso mce hM a ha 9 (Nat.le_refl 9) _) yX8_load_ok lkX10_103 ivX8_load slX8_load ⟨rfl, rfl, by decide, by decide⟩ (kX10_image_ok.at 36 rfl) rfl rfl (by decide) rfl rfl rfl ⟨rfl, rfl, rfl, rfl, trivial⟩ rfl (fun _ _ q => by rw [q.2]; rfl) (fun r9 G1 q => ?_)
    obtain ⟨rfl, rfl⟩ := q
    refine hX.run (ft := ftX10) (ct := ctX10) (oc := []) kX10_image_ok ftX10_ok ctX10_ok xnoc [] [41] [] 100 ?_
    refine hX.callV [1, 2, 3, 55] [] (k_load l S.1 60 so ce hO b hb 3 (wd_3 _) _) yX8_load_ok lkX10_103 ivX8_load slX8_load ⟨rfl, rfl, by decide, by decide⟩ (kX10_image_ok.at 90 rfl) rfl rfl (by decide) rfl rfl rfl ⟨rfl, rfl, rfl, rfl, trivial⟩ rfl (fun _ _ q => by rw [q.2]; rfl) (fun r9 G1 q => ?_)
    obtain ⟨rfl, rfl⟩ := q
    refine hX.run (ft := ftX10) (ct := ctX10) (oc := []) kX10_image_ok ftX10_ok ctX10_ok xnoc [] [94] [] 100 ?_
    refine hX.callV [32, 33, 34, 35, 36, 52, 55, 50] [] (k_ofLine l (S.2.1.2 a) (S.1.2.2 b) iv tu fo hal tr) yX1_ofLine_ok lkX10_183 ivX1_ofLine slX1_ofLine ⟨rfl, rfl, by decide, by decide⟩ (kX10_image_ok.at 131 rfl) rfl rfl (by decide) rfl rfl rfl ⟨rfl, rfl, rfl, rfl, rfl, rfl, rfl, rfl, trivial⟩ rfl (fun _ _ q => by obtain ⟨_, _, -, rfl⟩ := q; rfl) (fun r9 G1 q => ?_)
    obtain ⟨iv2, tu2, rfl, rfl⟩ := q
    refine hX.run (ft := ftX10) (ct := ctX10) (oc := []) kX10_image_ok ftX10_ok ctX10_ok xnoc [] [] [] 100 ?_
    refine hX.callV0 (rest := []) (k_keepObj_tr l so ce (nI S.2.1.1) mso mce (nI S.2.2.1.1) rme (nI S.2.2.2.1.1) sme n5 mks q f0 f1 f2 t0 t1 t2 we pa iv2 tu2 fo hal n6 va le mi co fr (nI S.2.2.2.2.1) eso ece be af bo sx (fun i => zl (S.2.1.2 a i)) se re (fun i => zl (S.1.2.2 b i)) q3 r3 s3 S.1 hO 1 (by omega) rfl (limg (adj9 (S.2.1.2 a)) (S.1.2.2 b)) hz hne) yX10_keepObject_ok lkX10_113 ivX10_keepObject slX10_keepObject ⟨rfl, rfl, by decide, by decide⟩ (kX10_image_ok.at 140 rfl) rfl rfl (by decide) rfl rfl rfl (fun _ _ q => by obtain ⟨_, _, _, -, -, rfl⟩ := q; rfl) (fun r9 G1 q => ?_)
    obtain ⟨so2, ce2, x2, rfl, q2, rfl⟩ := q
    refine hX.run (ft := ftX10) (ct := ctX10) (oc := []) kX10_image_ok ftX10_ok ctX10_ok xnoc [] [] [] 100 ?_
    rw [ei]
    exact ⟨rfl, ⟨_, _, _, _, _, _, _, _, _, _, _, _, _, _, _, _, _, _, _, _, _, _, _, _, _, _, _, _, _, _, _, _, _, _, _, _, _, _, _, _, _, rfl, q2, addO_st (s := 1) _ _ (by omega) hO2, hM, hM4, hV.wide (addO_ge _ _ _ _), hW, hE, hE4, hE1⟩⟩
  · have ei := ei 2 s1
    rw [show wid 2 = 6 from rfl, show imgv 2 (S.2.1.2 a) (S.1.2.2 b) = cimg (S.1.2.2 b) (adj9 (S.2.1.2 a)) from rfl] at ei
    rw [s1, show wid 2 = 6 from rfl, show imgv 2 (S.2.1.2 a) (S.1.2.2 b) = cimg (S.1.2.2 b) (adj9 (S.2.1.2 a)) from rfl] at hne
    have hz : ∀ i, i < 6 → jr (cimg (S.1.2.2 b) (adj9 (S.2.1.2 a)) i) := fun i hi => ab_jr (cimg_bd (fun i hi => (hO.2.2 b i hb (by rw [s1]; exact hi)).2) (fun i hi => ab_le (adj9_bd2 hx i) (by decide)) i hi) (by decide)
    refine hX.run (ft := ftX10) (ct := ctX10) (oc := []) kX10_image_ok ftX10_ok ctX10_ok xnoc [] [] [] 100 ?_
    refine hX.callV [1, 2, 3] [] (k_sortOf l S.1 60 so ce hO (nI b)) yX8_sortOf_ok lkX10_95 ivX8_sortOf slX8_sortOf ⟨rfl, rfl, by decide, by decide⟩ (kX10_image_ok.at 5 rfl) rfl rfl (by decide) rfl rfl rfl ⟨rfl, rfl, rfl, trivial⟩ rfl (fun _ _ q => by rw [q.2]) (fun r9 G1 q => ?_)
    obtain ⟨rfl, rfl⟩ := q
    rw [s2]
    refine hX.run (ft := ftX10) (ct := ctX10) (oc := []) kX10_image_ok ftX10_ok ctX10_ok xnoc [] [] [] 100 ?_
    refine hX.callV [4, 5, 6] [] (k_has l S.2.1.1 40 (by omega) mso mce (nI a)) yX8_has_ok lkX10_135 ivX8_has slX8_has ⟨rfl, rfl, by decide, by decide⟩ (kX10_image_ok.at 14 rfl) rfl rfl (by decide) rfl rfl rfl ⟨rfl, rfl, rfl, trivial⟩ rfl (fun _ _ q => by rw [q.2]) (fun r9 G1 q => ?_)
    obtain ⟨rfl, rfl⟩ := q
    rw [decide_eq_true hm]
    refine hX.run (ft := ftX10) (ct := ctX10) (oc := []) kX10_image_ok ftX10_ok ctX10_ok xnoc [] [17, 22] [] 100 ?_
    refine hX.callV [4, 5, 6, 52] [] (k_load l (toO S.2.1) 40 mso mce hM a ha 9 (Nat.le_refl 9) _) yX8_load_ok lkX10_103 ivX8_load slX8_load ⟨rfl, rfl, by decide, by decide⟩ (kX10_image_ok.at 36 rfl) rfl rfl (by decide) rfl rfl rfl ⟨rfl, rfl, rfl, rfl, trivial⟩ rfl (fun _ _ q => by rw [q.2]; rfl) (fun r9 G1 q => ?_)
    obtain ⟨rfl, rfl⟩ := q
    refine hX.run (ft := ftX10) (ct := ctX10) (oc := []) kX10_image_ok ftX10_ok ctX10_ok xnoc [] [41] [] 100 ?_
    refine hX.callV [1, 2, 3, 51] [] (k_load l S.1 60 so ce hO b hb 6 (by rw [s1]; exact Nat.le_refl _) _) yX8_load_ok lkX10_103 ivX8_load slX8_load ⟨rfl, rfl, by decide, by decide⟩ (kX10_image_ok.at 53 rfl) rfl rfl (by decide) rfl rfl rfl ⟨rfl, rfl, rfl, rfl, trivial⟩ rfl (fun _ _ q => by rw [q.2]; rfl) (fun r9 G1 q => ?_)
    obtain ⟨rfl, rfl⟩ := q
    refine hX.run (ft := ftX10) (ct := ctX10) (oc := []) kX10_image_ok ftX10_ok ctX10_ok xnoc [] [] [] 100 ?_
    refine hX.callV [32, 33, 34, 35, 36, 52, 51] [] (k_ofConic l (S.2.1.2 a) (S.1.2.2 b) iv tu fo hal) yX1_ofConic_ok lkX10_177 ivX1_ofConic slX1_ofConic ⟨rfl, rfl, by decide, by decide⟩ (kX10_image_ok.at 68 rfl) rfl rfl (by decide) rfl rfl rfl ⟨rfl, rfl, rfl, rfl, rfl, rfl, rfl, trivial⟩ rfl (fun _ _ q => by obtain ⟨_, _, _, _, -, rfl⟩ := q; rfl) (fun r9 G1 q => ?_)
    obtain ⟨iv2, tu2, fo2, ha2, rfl, rfl⟩ := q
    refine hX.run (ft := ftX10) (ct := ctX10) (oc := []) kX10_image_ok ftX10_ok ctX10_ok xnoc [] [] [] 100 ?_
    refine hX.callV0 (rest := []) (k_keepObj_sx l so ce (nI S.2.1.1) mso mce (nI S.2.2.1.1) rme (nI S.2.2.2.1.1) sme n5 mks q f0 f1 f2 t0 t1 t2 we pa iv2 tu2 fo2 ha2 n6 va le mi co fr (nI S.2.2.2.2.1) eso ece be af bo tr (fun i => zl (S.2.1.2 a i)) se re p3 q3 r3 s3 S.1 hO 2 (by omega) rfl (cimg (S.1.2.2 b) (adj9 (S.2.1.2 a))) hz hne) yX10_keepObject_ok lkX10_113 ivX10_keepObject slX10_keepObject ⟨rfl, rfl, by decide, by decide⟩ (kX10_image_ok.at 77 rfl) rfl rfl (by decide) rfl rfl rfl (fun _ _ q => by obtain ⟨_, _, _, -, -, rfl⟩ := q; rfl) (fun r9 G1 q => ?_)
    obtain ⟨so2, ce2, x2, rfl, q2, rfl⟩ := q
    refine hX.run (ft := ftX10) (ct := ctX10) (oc := []) kX10_image_ok ftX10_ok ctX10_ok xnoc [] [] [] 100 ?_
    rw [ei]
    exact ⟨rfl, ⟨_, _, _, _, _, _, _, _, _, _, _, _, _, _, _, _, _, _, _, _, _, _, _, _, _, _, _, _, _, _, _, _, _, _, _, _, _, _, _, _, _, rfl, q2, addO_st (s := 2) _ _ (by omega) hO2, hM, hM4, hV.wide (addO_ge _ _ _ _), hW, hE, hE4, hE1⟩⟩

def kdc (x : Nat → Int) : Nat := if farP x then caff x else cpl x 3 0
def spc_kind (S : SS) (m : Int) : Int := if 0 ≤ m ∧ m < S.2.1.1 then (kdc (S.2.1.2 m.toNat) : Int) else -1
def spc_own (S : SS) (m k : Int) : Int := if 0 ≤ m ∧ m < S.2.1.1 then (if 0 ≤ k ∧ k < (ovs (S.2.1.2 m.toNat)).1 then (ovs (S.2.1.2 m.toNat)).2 k.toNat else -9223372036854775808) else -9223372036854775808
def spc_fixedO (S : SS) (m k : Int) : Int × SO :=
  if 0 ≤ m ∧ m < S.2.1.1 then
    (if 0 ≤ k ∧ k < (ovs (S.2.1.2 m.toNat)).1 then
      (if (fxb (S.2.1.2 m.toNat) ((ovs (S.2.1.2 m.toNat)).2 k.toNat)).1 = 2 then (-3, S.1) else
       addO S.1 (if (fxb (S.2.1.2 m.toNat) ((ovs (S.2.1.2 m.toNat)).2 k.toNat)).1 = 1 then 1 else 0) 3 (fxb (S.2.1.2 m.toNat) ((ovs (S.2.1.2 m.toNat)).2 k.toNat)).2)
     else (-2, S.1))
  else (-1, S.1)
def spc_fixed (S : SS) (m k : Int) : Int × SS := withO (spc_fixedO S m k) S
set_option maxHeartbeats 4000000 in
set_option maxRecDepth 100000 in
theorem k_kind (l : Launch) (S : SS) (G0 : List xE) (hG : CInv S G0) (m : Int32) : xM l yX10_kind cX10_kind 2 (some .int) rX10_kind [.ref 0, .int m] G0 (fun r9 G => r9 = some (.int (zi (spc_kind S m.toInt))) ∧ CInv S G) := by
  obtain ⟨so, ce, mso, mce, rme, sme, n5, mks, q, f0, f1, f2, t0, t1, t2, we, pa, iv, tu, fo, hal, n6, va, le, mi, co, fr, eso, ece, be, af, bo, tr, sx, fi, se, re, p3, q3, r3, s3, rfl, hO, hO2, hM, hM4, hV, hW, hE, hE4, hE1⟩ := hG
  refine xM.of (by decide) (Nat.le_of_ble_eq_true rfl) (fun X hX => ?_)
  by_cases hm : 0 ≤ m.toInt ∧ m.toInt < S.2.1.1
  rotate_left
  · have e : spc_kind S m.toInt = -1 := by unfold spc_kind; rw [if_neg hm]
    refine hX.run (ft := ftX10) (ct := ctX10) (oc := []) kX10_kind_ok ftX10_ok ctX10_ok xnoc [] [] [] 100 ?_
    refine hX.callV [4, 5, 6] [] (k_has l S.2.1.1 40 (by omega) mso mce m) yX8_has_ok lkX10_135 ivX8_has slX8_has ⟨rfl, rfl, by decide, by decide⟩ (kX10_kind_ok.at 5 rfl) rfl rfl (by decide) rfl rfl rfl ⟨rfl, rfl, rfl, trivial⟩ rfl (fun _ _ q => by rw [q.2]) (fun r9 G1 q => ?_)
    obtain ⟨rfl, rfl⟩ := q
    rw [decide_eq_false hm]
    refine hX.run (ft := ftX10) (ct := ctX10) (oc := []) kX10_kind_ok ftX10_ok ctX10_ok xnoc [] [8] [] 100 ?_
    exact ⟨vI e, ⟨_, _, _, _, _, _, _, _, _, _, _, _, _, _, _, _, _, _, _, _, _, _, _, _, _, _, _, _, _, _, _, _, _, _, _, _, _, _, _, _, _, rfl, hO, hO2, hM, hM4, hV, hW, hE, hE4, hE1⟩⟩
  obtain ⟨a, rfl, ha9, ea⟩ := i32_of (by omega) hm
  have hx : ∀ i, i < 9 → ab (S.2.1.2 a i) 500 := fun i hi => toO_bd hM ha9 hi
  have e : spc_kind S (nI a).toInt = (kdc (S.2.1.2 a) : Int) := by unfold spc_kind; rw [if_pos hm, ea]; rfl
  refine hX.run (ft := ftX10) (ct := ctX10) (oc := []) kX10_kind_ok ftX10_ok ctX10_ok xnoc [] [] [] 100 ?_
  refine hX.callV [4, 5, 6] [] (k_has l S.2.1.1 40 (by omega) mso mce (nI a)) yX8_has_ok lkX10_135 ivX8_has slX8_has ⟨rfl, rfl, by decide, by decide⟩ (kX10_kind_ok.at 5 rfl) rfl rfl (by decide) rfl rfl rfl ⟨rfl, rfl, rfl, trivial⟩ rfl (fun _ _ q => by rw [q.2]) (fun r9 G1 q => ?_)
  obtain ⟨rfl, rfl⟩ := q
  rw [decide_eq_true hm]
  refine hX.run (ft := ftX10) (ct := ctX10) (oc := []) kX10_kind_ok ftX10_ok ctX10_ok xnoc [] [8] [] 100 ?_
  refine hX.callV [4, 5, 6, 52] [] (k_load l (toO S.2.1) 40 mso mce hM a ha9 9 (Nat.le_refl 9) _) yX8_load_ok lkX10_103 ivX8_load slX8_load ⟨rfl, rfl, by decide, by decide⟩ (kX10_kind_ok.at 22 rfl) rfl rfl (by decide) rfl rfl rfl ⟨rfl, rfl, rfl, rfl, trivial⟩ rfl (fun _ _ q => by rw [q.2]; rfl) (fun r9 G1 q => ?_)
  obtain ⟨rfl, rfl⟩ := q
  refine hX.run (ft := ftX10) (ct := ctX10) (oc := []) kX10_kind_ok ftX10_ok ctX10_ok xnoc [] [] [] 100 ?_
  refine hX.callS [52] [] (k_keepsFar l (S.2.1.2 a) hx) yX2_keepsFar_ok lkX10_186 ssX2_keepsFar ⟨rfl, rfl, by decide, by decide⟩ (kX10_kind_ok.at 29 rfl) rfl rfl (by decide) ⟨rfl, trivial⟩ rfl (fun _ _ q => by rw [q.2]) (fun r9 G1 q => ?_)
  obtain ⟨rfl, rfl⟩ := q
  refine hX.run (ft := ftX10) (ct := ctX10) (oc := []) kX10_kind_ok ftX10_ok ctX10_ok xnoc [] [] [] 100 ?_
  refine ⟨fun h => ?_, fun h => ?_⟩
  · have hf := bI_0.mp h
    have e2 : kdc (S.2.1.2 a) = cpl (S.2.1.2 a) 3 0 := by unfold kdc; rw [hf]; rfl
    refine hX.callS [37, 38, 39, 40, 41, 42, 52] [] (k_ofProj l (S.2.1.2 a) hx n6 va le mi co fr) yX2_ofProjective_ok lkX10_195 ssX2_ofProjective ⟨rfl, rfl, by decide, by decide⟩ (kX10_kind_ok.at 53 rfl) rfl rfl (by decide) ⟨rfl, rfl, rfl, rfl, rfl, rfl, rfl, trivial⟩ rfl (fun _ _ q => by obtain ⟨_, _, _, _, _, _, -, rfl⟩ := q; rfl) (fun r9 G1 q => ?_)
    obtain ⟨va2, le2, mi2, co2, fr2, n62, rfl, rfl⟩ := q
    refine hX.run (ft := ftX10) (ct := ctX10) (oc := []) kX10_kind_ok ftX10_ok ctX10_ok xnoc [] [] [] 100 ?_
    exact ⟨vN (by rw [e, e2]), ⟨_, _, _, _, _, _, _, _, _, _, _, _, _, _, _, _, _, _, _, _, _, _, _, _, _, _, _, _, _, _, _, _, _, _, _, _, _, _, _, _, _, rfl, hO, hO2, hM, hM4, hV, hW, hE, hE4, hE1⟩⟩
  · have hf := bI_t h
    have e2 : kdc (S.2.1.2 a) = caff (S.2.1.2 a) := by unfold kdc; rw [hf]; rfl
    refine hX.callS [52] [] (k_ofAffine l (S.2.1.2 a) hx) yX2_ofAffine_ok lkX10_192 ssX2_ofAffine ⟨rfl, rfl, by decide, by decide⟩ (kX10_kind_ok.at 39 rfl) rfl rfl (by decide) ⟨rfl, trivial⟩ rfl (fun _ _ q => by rw [q.2]) (fun r9 G1 q => ?_)
    obtain ⟨rfl, rfl⟩ := q
    refine hX.run (ft := ftX10) (ct := ctX10) (oc := []) kX10_kind_ok ftX10_ok ctX10_ok xnoc [] [] [] 100 ?_
    exact ⟨vN (by rw [e, e2]), ⟨_, _, _, _, _, _, _, _, _, _, _, _, _, _, _, _, _, _, _, _, _, _, _, _, _, _, _, _, _, _, _, _, _, _, _, _, _, _, _, _, _, rfl, hO, hO2, hM, hM4, hV, hW, hE, hE4, hE1⟩⟩
set_option maxHeartbeats 4000000 in
set_option maxRecDepth 100000 in
theorem k_own (l : Launch) (S : SS) (G0 : List xE) (hG : CInv S G0) (m k : Int32) : xM l yX10_own cX10_own 3 (some .long) rX10_own [.ref 0, .int m, .int k] G0 (fun r9 G => r9 = some (.long (zl (spc_own S m.toInt k.toInt))) ∧ CInv S G) := by
  obtain ⟨so, ce, mso, mce, rme, sme, n5, mks, q, f0, f1, f2, t0, t1, t2, we, pa, iv, tu, fo, hal, n6, va, le, mi, co, fr, eso, ece, be, af, bo, tr, sx, fi, se, re, p3, q3, r3, s3, rfl, hO, hO2, hM, hM4, hV, hW, hE, hE4, hE1⟩ := hG
  refine xM.of (by decide) (Nat.le_of_ble_eq_true rfl) (fun X hX => ?_)
  by_cases hm : 0 ≤ m.toInt ∧ m.toInt < S.2.1.1
  rotate_left
  · have e : spc_own S m.toInt k.toInt = -9223372036854775808 := by unfold spc_own; rw [if_neg hm]
    refine hX.run (ft := ftX10) (ct := ctX10) (oc := []) kX10_own_ok ftX10_ok ctX10_ok xnoc [] [] [] 100 ?_
    refine hX.callV [4, 5, 6] [] (k_has l S.2.1.1 40 (by omega) mso mce m) yX8_has_ok lkX10_135 ivX8_has slX8_has ⟨rfl, rfl, by decide, by decide⟩ (kX10_own_ok.at 5 rfl) rfl rfl (by decide) rfl rfl rfl ⟨rfl, rfl, rfl, trivial⟩ rfl (fun _ _ q => by rw [q.2]) (fun r9 G1 q => ?_)
    obtain ⟨rfl, rfl⟩ := q
    rw [decide_eq_false hm]
    refine hX.run (ft := ftX10) (ct := ctX10) (oc := []) kX10_own_ok ftX10_ok ctX10_ok xnoc [] [8] [] 100 ?_
    exact ⟨vL e, ⟨_, _, _, _, _, _, _, _, _, _, _, _, _, _, _, _, _, _, _, _, _, _, _, _, _, _, _, _, _, _, _, _, _, _, _, _, _, _, _, _, _, rfl, hO, hO2, hM, hM4, hV, hW, hE, hE4, hE1⟩⟩
  obtain ⟨a, rfl, ha9, ea⟩ := i32_of (by omega) hm
  have hx : ∀ i, i < 9 → ab (S.2.1.2 a i) 500 := fun i hi => toO_bd hM ha9 hi
  have h3 : (ovs (S.2.1.2 a)).1 ≤ 3 := scn_n (by omega)
  have e : spc_own S (nI a).toInt k.toInt = if 0 ≤ k.toInt ∧ k.toInt < (ovs (S.2.1.2 a)).1 then (ovs (S.2.1.2 a)).2 k.toInt.toNat else -9223372036854775808 := by unfold spc_own; rw [if_pos hm, ea]; rfl
  refine hX.run (ft := ftX10) (ct := ctX10) (oc := []) kX10_own_ok ftX10_ok ctX10_ok xnoc [] [] [] 100 ?_
  refine hX.callV [4, 5, 6] [] (k_has l S.2.1.1 40 (by omega) mso mce (nI a)) yX8_has_ok lkX10_135 ivX8_has slX8_has ⟨rfl, rfl, by decide, by decide⟩ (kX10_own_ok.at 5 rfl) rfl rfl (by decide) rfl rfl rfl ⟨rfl, rfl, rfl, trivial⟩ rfl (fun _ _ q => by rw [q.2]) (fun r9 G1 q => ?_)
  obtain ⟨rfl, rfl⟩ := q
  rw [decide_eq_true hm]
  refine hX.run (ft := ftX10) (ct := ctX10) (oc := []) kX10_own_ok ftX10_ok ctX10_ok xnoc [] [8] [] 100 ?_
  refine hX.callV [4, 5, 6, 52] [] (k_load l (toO S.2.1) 40 mso mce hM a ha9 9 (Nat.le_refl 9) _) yX8_load_ok lkX10_103 ivX8_load slX8_load ⟨rfl, rfl, by decide, by decide⟩ (kX10_own_ok.at 24 rfl) rfl rfl (by decide) rfl rfl rfl ⟨rfl, rfl, rfl, rfl, trivial⟩ rfl (fun _ _ q => by rw [q.2]; rfl) (fun r9 G1 q => ?_)
  obtain ⟨rfl, rfl⟩ := q
  refine hX.run (ft := ftX10) (ct := ctX10) (oc := []) kX10_own_ok ftX10_ok ctX10_ok xnoc [] [] [] 100 ?_
  refine hX.callV [37, 38, 39, 40, 41, 42, 52] [] (k_ofind l (S.2.1.2 a) hx n6 va le mi co fr) yX6_find_ok lkX10_199 ivX6_find slX6_find ⟨rfl, rfl, by decide, by decide⟩ (kX10_own_ok.at 35 rfl) rfl rfl (by decide) rfl rfl rfl ⟨rfl, rfl, rfl, rfl, rfl, rfl, rfl, trivial⟩ rfl (fun _ _ q => by obtain ⟨_, -, -, rfl⟩ := q; rfl) (fun r9 G1 q => ?_)
  obtain ⟨va2, rfl, qv, rfl⟩ := q
  refine hX.run (ft := ftX10) (ct := ctX10) (oc := []) kX10_own_ok ftX10_ok ctX10_ok xnoc [] [] [] 100 ?_
  by_cases hk : 0 ≤ k.toInt ∧ k.toInt < (ovs (S.2.1.2 a)).1
  · obtain ⟨b, rfl, hb, eb⟩ := i32_of (by omega) hk
    refine hX.callV [37, 38, 39, 40, 41, 42] [] (k_ohas l (ovs (S.2.1.2 a)).1 (scn_n (by omega)) va2 le _ co fr (nI b)) yX6_has_ok lkX10_203 ivX6_has slX6_has ⟨rfl, rfl, by decide, by decide⟩ (kX10_own_ok.at 43 rfl) rfl rfl (by decide) rfl rfl rfl ⟨rfl, rfl, rfl, rfl, rfl, rfl, trivial⟩ rfl (fun _ _ q => by rw [q.2]) (fun r9 G1 q => ?_)
    obtain ⟨rfl, rfl⟩ := q
    rw [decide_eq_true hk]
    refine hX.run (ft := ftX10) (ct := ctX10) (oc := []) kX10_own_ok ftX10_ok ctX10_ok xnoc [] [46] [] 100 ?_
    refine hX.callV [37, 38, 39, 40, 41, 42] [] (k_oval l (ovs (S.2.1.2 a)).1 h3 va2 le _ co fr b hb) yX6_value_ok lkX10_204 ivX6_value slX6_value ⟨rfl, rfl, by decide, by decide⟩ (kX10_own_ok.at 54 rfl) rfl rfl (by decide) rfl rfl rfl ⟨rfl, rfl, rfl, rfl, rfl, rfl, trivial⟩ rfl (fun _ _ q => by rw [q.2]) (fun r9 G1 q => ?_)
    obtain ⟨rfl, rfl⟩ := q
    rw [qv b hb]
    refine hX.run (ft := ftX10) (ct := ctX10) (oc := []) kX10_own_ok ftX10_ok ctX10_ok xnoc [] [] [] 100 ?_
    exact ⟨vL (by rw [e, if_pos hk, eb]; rfl), ⟨_, _, _, _, _, _, _, _, _, _, _, _, _, _, _, _, _, _, _, _, _, _, _, _, _, _, _, _, _, _, _, _, _, _, _, _, _, _, _, _, _, rfl, hO, hO2, hM, hM4, hV, hW, hE, hE4, hE1⟩⟩
  · refine hX.callV [37, 38, 39, 40, 41, 42] [] (k_ohas l (ovs (S.2.1.2 a)).1 (scn_n (by omega)) va2 le _ co fr k) yX6_has_ok lkX10_203 ivX6_has slX6_has ⟨rfl, rfl, by decide, by decide⟩ (kX10_own_ok.at 43 rfl) rfl rfl (by decide) rfl rfl rfl ⟨rfl, rfl, rfl, rfl, rfl, rfl, trivial⟩ rfl (fun _ _ q => by rw [q.2]) (fun r9 G1 q => ?_)
    obtain ⟨rfl, rfl⟩ := q
    rw [decide_eq_false hk]
    refine hX.run (ft := ftX10) (ct := ctX10) (oc := []) kX10_own_ok ftX10_ok ctX10_ok xnoc [] [46] [] 100 ?_
    rw [if_neg hk] at e
    exact ⟨vL e, ⟨_, _, _, _, _, _, _, _, _, _, _, _, _, _, _, _, _, _, _, _, _, _, _, _, _, _, _, _, _, _, _, _, _, _, _, _, _, _, _, _, _, rfl, hO, hO2, hM, hM4, hV, hW, hE, hE4, hE1⟩⟩
theorem ovs_in {x : Nat → Int} (hx : ∀ i, i < 9 → ab (x i) 500) (i : Nat) (hi : i < (ovs x).1) : -1500 ≤ (ovs x).2 i ∧ (ovs x).2 i ≤ 1500 := by
  have h1 : mst x ≤ 1500 := by unfold mst; split <;> omega
  have h2 : 0 ≤ mst x := by
    have := (wmx_bd hx (Nat.le_refl 3)).1
    unfold mst
    split <;> omega
  exact scn_in (fun i hi => absurd hi (Nat.not_lt_zero i)) (by omega) (by omega) i hi
theorem tkr_nz {m f : Nat → Int} (h : tkr m = some f) : nz3 f = true := by
  unfold tkr at h
  split at h
  · next q => cases h; exact q
  · split at h
    · next q => cases h; exact q
    · split at h
      · next q => cases h; exact q
      · cases h
theorem nz3_gN {f : Nat → Int} (h : nz3 f = true) : gN f 3 ≠ 0 := by
  intro q
  have h0 := gN_zero q
  simp [nz3, h0 0 (by omega), h0 1 (by omega), h0 2 (by omega)] at h
theorem tkr_bd {m f : Nat → Int} {A : Int} (hm : ∀ i, i < 9 → ab (m i) A) (h : tkr m = some f) : ∀ i, i < 3 → ab (f i) A := by
  unfold tkr at h
  have hr : ∀ r, r < 3 → ∀ i, i < 3 → ab (rw3 m r i) A := fun r hr i hi => hm (3 * r + i) (by omega)
  split at h
  · cases h; exact hr 0 (by omega)
  · split at h
    · cases h; exact hr 1 (by omega)
    · split at h
      · cases h; exact hr 2 (by omega)
      · cases h
theorem fxb_bd {x : Nat → Int} {z : Int} (hx : ∀ i, i < 9 → ab (x i) 500) (hz : ab z 1500) (h : (fxb x z).1 ≠ 2) : (∀ i, i < 3 → jr ((fxb x z).2 i)) ∧ gN (fxb x z).2 3 ≠ 0 := by
  have hl : ∀ i, i < 9 → ab (lss x z i) 2000 := fun i hi => lss_bd hx hz i hi
  have hadj : ∀ i, ab (adj9 (lss x z) i) (2000 * 2000 + 2000 * 2000) := fun i => adj9_bd2 hl i
  unfold fxb at h ⊢
  cases h1 : tkr (tr9 (adj9 (lss x z))) with
  | some f =>
    rw [h1] at h
    exact ⟨fun i hi => ab_jr (tkr_bd (fun i hi => hadj _) h1 i hi) (by decide), nz3_gN (tkr_nz h1)⟩
  | none =>
    rw [h1] at h
    dsimp only at h ⊢
    cases h2 : tkr (lss x z) with
    | some f =>
      exact ⟨fun i hi => ab_jr (tkr_bd hl h2 i hi) (by decide), nz3_gN (tkr_nz h2)⟩
    | none =>
      rw [h2] at h
      exact absurd rfl h
set_option maxHeartbeats 4000000 in
set_option maxRecDepth 100000 in
theorem k_fixed (l : Launch) (S : SS) (G0 : List xE) (hG : CInv S G0) (m k : Int32) : xM l yX10_fixed cX10_fixed 4 (some .int) rX10_fixed [.ref 0, .int m, .int k] G0 (fun r9 G => r9 = some (.int (zi (spc_fixed S m.toInt k.toInt).1)) ∧ CInv (spc_fixed S m.toInt k.toInt).2 G) := by
  obtain ⟨so, ce, mso, mce, rme, sme, n5, mks, q, f0, f1, f2, t0, t1, t2, we, pa, iv, tu, fo, hal, n6, va, le, mi, co, fr, eso, ece, be, af, bo, tr, sx, fi, se, re, p3, q3, r3, s3, rfl, hO, hO2, hM, hM4, hV, hW, hE, hE4, hE1⟩ := hG
  refine xM.of (by decide) (Nat.le_of_ble_eq_true rfl) (fun X hX => ?_)
  have h60 := hO.1
  by_cases hm : 0 ≤ m.toInt ∧ m.toInt < S.2.1.1
  rotate_left
  · have e : spc_fixed S m.toInt k.toInt = (-1, S) := by unfold spc_fixed spc_fixedO; rw [if_neg hm]; rfl
    refine hX.run (ft := ftX10) (ct := ctX10) (oc := []) kX10_fixed_ok ftX10_ok ctX10_ok xnoc [] [] [] 100 ?_
    refine hX.callV [4, 5, 6] [] (k_has l S.2.1.1 40 (by omega) mso mce m) yX8_has_ok lkX10_135 ivX8_has slX8_has ⟨rfl, rfl, by decide, by decide⟩ (kX10_fixed_ok.at 5 rfl) rfl rfl (by decide) rfl rfl rfl ⟨rfl, rfl, rfl, trivial⟩ rfl (fun _ _ q => by rw [q.2]) (fun r9 G1 q => ?_)
    obtain ⟨rfl, rfl⟩ := q
    rw [decide_eq_false hm]
    refine hX.run (ft := ftX10) (ct := ctX10) (oc := []) kX10_fixed_ok ftX10_ok ctX10_ok xnoc [] [8] [] 100 ?_
    rw [e]
    exact ⟨rfl, ⟨_, _, _, _, _, _, _, _, _, _, _, _, _, _, _, _, _, _, _, _, _, _, _, _, _, _, _, _, _, _, _, _, _, _, _, _, _, _, _, _, _, rfl, hO, hO2, hM, hM4, hV, hW, hE, hE4, hE1⟩⟩
  obtain ⟨a, rfl, ha9, ea⟩ := i32_of (by omega) hm
  have hx : ∀ i, i < 9 → ab (S.2.1.2 a i) 500 := fun i hi => toO_bd hM ha9 hi
  have h3 : (ovs (S.2.1.2 a)).1 ≤ 3 := scn_n (by omega)
  refine hX.run (ft := ftX10) (ct := ctX10) (oc := []) kX10_fixed_ok ftX10_ok ctX10_ok xnoc [] [] [] 100 ?_
  refine hX.callV [4, 5, 6] [] (k_has l S.2.1.1 40 (by omega) mso mce (nI a)) yX8_has_ok lkX10_135 ivX8_has slX8_has ⟨rfl, rfl, by decide, by decide⟩ (kX10_fixed_ok.at 5 rfl) rfl rfl (by decide) rfl rfl rfl ⟨rfl, rfl, rfl, trivial⟩ rfl (fun _ _ q => by rw [q.2]) (fun r9 G1 q => ?_)
  obtain ⟨rfl, rfl⟩ := q
  rw [decide_eq_true hm]
  refine hX.run (ft := ftX10) (ct := ctX10) (oc := []) kX10_fixed_ok ftX10_ok ctX10_ok xnoc [] [8] [] 100 ?_
  refine hX.callV [4, 5, 6, 52] [] (k_load l (toO S.2.1) 40 mso mce hM a ha9 9 (Nat.le_refl 9) _) yX8_load_ok lkX10_103 ivX8_load slX8_load ⟨rfl, rfl, by decide, by decide⟩ (kX10_fixed_ok.at 22 rfl) rfl rfl (by decide) rfl rfl rfl ⟨rfl, rfl, rfl, rfl, trivial⟩ rfl (fun _ _ q => by rw [q.2]; rfl) (fun r9 G1 q => ?_)
  obtain ⟨rfl, rfl⟩ := q
  refine hX.run (ft := ftX10) (ct := ctX10) (oc := []) kX10_fixed_ok ftX10_ok ctX10_ok xnoc [] [] [] 100 ?_
  refine hX.callV [37, 38, 39, 40, 41, 42, 52] [] (k_ofind l (S.2.1.2 a) hx n6 va le mi co fr) yX6_find_ok lkX10_199 ivX6_find slX6_find ⟨rfl, rfl, by decide, by decide⟩ (kX10_fixed_ok.at 33 rfl) rfl rfl (by decide) rfl rfl rfl ⟨rfl, rfl, rfl, rfl, rfl, rfl, rfl, trivial⟩ rfl (fun _ _ q => by obtain ⟨_, -, -, rfl⟩ := q; rfl) (fun r9 G1 q => ?_)
  obtain ⟨va2, rfl, qv, rfl⟩ := q
  refine hX.run (ft := ftX10) (ct := ctX10) (oc := []) kX10_fixed_ok ftX10_ok ctX10_ok xnoc [] [] [] 100 ?_
  by_cases hk : 0 ≤ k.toInt ∧ k.toInt < (ovs (S.2.1.2 a)).1
  rotate_left
  · have e : spc_fixed S (nI a).toInt k.toInt = (-2, S) := by unfold spc_fixed spc_fixedO; rw [if_pos hm, ea]; dsimp only [Int.toNat_natCast]; rw [if_neg hk]; rfl
    refine hX.callV [37, 38, 39, 40, 41, 42] [] (k_ohas l (ovs (S.2.1.2 a)).1 (scn_n (by omega)) va2 le _ co fr k) yX6_has_ok lkX10_203 ivX6_has slX6_has ⟨rfl, rfl, by decide, by decide⟩ (kX10_fixed_ok.at 41 rfl) rfl rfl (by decide) rfl rfl rfl ⟨rfl, rfl, rfl, rfl, rfl, rfl, trivial⟩ rfl (fun _ _ q => by rw [q.2]) (fun r9 G1 q => ?_)
    obtain ⟨rfl, rfl⟩ := q
    rw [decide_eq_false hk]
    refine hX.run (ft := ftX10) (ct := ctX10) (oc := []) kX10_fixed_ok ftX10_ok ctX10_ok xnoc [] [44] [] 100 ?_
    rw [e]
    exact ⟨rfl, ⟨_, _, _, _, _, _, _, _, _, _, _, _, _, _, _, _, _, _, _, _, _, _, _, _, _, _, _, _, _, _, _, _, _, _, _, _, _, _, _, _, _, rfl, hO, hO2, hM, hM4, hV, hW, hE, hE4, hE1⟩⟩
  obtain ⟨b, rfl, hb, eb⟩ := i32_of (by omega) hk
  have hv := ovs_in hx b hb
  have e : spc_fixed S (nI a).toInt (nI b).toInt = withO (if (fxb (S.2.1.2 a) ((ovs (S.2.1.2 a)).2 b)).1 = 2 then (-3, S.1) else addO S.1 (if (fxb (S.2.1.2 a) ((ovs (S.2.1.2 a)).2 b)).1 = 1 then 1 else 0) 3 (fxb (S.2.1.2 a) ((ovs (S.2.1.2 a)).2 b)).2) S := by
    unfold spc_fixed spc_fixedO
    rw [if_pos hm, ea]
    dsimp only [Int.toNat_natCast]
    rw [if_pos hk, eb]
    rfl
  refine hX.callV [37, 38, 39, 40, 41, 42] [] (k_ohas l (ovs (S.2.1.2 a)).1 (scn_n (by omega)) va2 le _ co fr (nI b)) yX6_has_ok lkX10_203 ivX6_has slX6_has ⟨rfl, rfl, by decide, by decide⟩ (kX10_fixed_ok.at 41 rfl) rfl rfl (by decide) rfl rfl rfl ⟨rfl, rfl, rfl, rfl, rfl, rfl, trivial⟩ rfl (fun _ _ q => by rw [q.2]) (fun r9 G1 q => ?_)
  obtain ⟨rfl, rfl⟩ := q
  rw [decide_eq_true hk]
  refine hX.run (ft := ftX10) (ct := ctX10) (oc := []) kX10_fixed_ok ftX10_ok ctX10_ok xnoc [] [44] [] 100 ?_
  refine hX.callV [37, 38, 39, 40, 41, 42] [.ref 52, .ref 37] (k_oval l (ovs (S.2.1.2 a)).1 h3 va2 le _ co fr b hb) yX6_value_ok lkX10_204 ivX6_value slX6_value ⟨rfl, rfl, by decide, by decide⟩ (kX10_fixed_ok.at 63 rfl) rfl rfl (xrs_ok rfl) rfl rfl rfl ⟨rfl, rfl, rfl, rfl, rfl, rfl, trivial⟩ rfl (fun _ _ q => by rw [q.2]) (fun r9 G1 q => ?_)
  obtain ⟨rfl, rfl⟩ := q
  rw [qv b hb]
  refine hX.run (ft := ftX10) (ct := ctX10) (oc := []) kX10_fixed_ok ftX10_ok ctX10_ok xnoc [] [] [] 100 ?_
  refine hX.callV [37, 38, 39, 40, 41, 42, 52] [] (k_fixedBy l (S.2.1.2 a) hx ((ovs (S.2.1.2 a)).2 b) hv _ va2 le _ co fr) yX6_fixedBy_ok lkX10_207 ivX6_fixedBy slX6_fixedBy ⟨rfl, rfl, by decide, by decide⟩ (kX10_fixed_ok.at 66 rfl) rfl rfl (by decide) rfl rfl rfl ⟨rfl, rfl, rfl, rfl, rfl, rfl, rfl, trivial⟩ rfl (fun _ _ q => by obtain ⟨_, -, -, rfl⟩ := q; rfl) (fun r9 G1 q => ?_)
  obtain ⟨fr2, rfl, qf, rfl⟩ := q
  have hle := fxb_le (S.2.1.2 a) ((ovs (S.2.1.2 a)).2 b)
  by_cases h2 : (fxb (S.2.1.2 a) ((ovs (S.2.1.2 a)).2 b)).1 = 2
  · rw [h2]
    refine hX.run (ft := ftX10) (ct := ctX10) (oc := []) kX10_fixed_ok ftX10_ok ctX10_ok xnoc [] [72] [] 100 ?_
    rw [e, if_pos h2]
    exact ⟨rfl, ⟨_, _, _, _, _, _, _, _, _, _, _, _, _, _, _, _, _, _, _, _, _, _, _, _, _, _, _, _, _, _, _, _, _, _, _, _, _, _, _, _, _, rfl, hO, hO2, hM, hM4, hV, hW, hE, hE4, hE1⟩⟩
  rw [if_neg h2] at e
  obtain ⟨hz, hg⟩ := fxb_bd hx hv h2
  have kw := fun i hi => qf h2 i hi
  rcases (show (fxb (S.2.1.2 a) ((ovs (S.2.1.2 a)).2 b)).1 = 1 ∨ (fxb (S.2.1.2 a) ((ovs (S.2.1.2 a)).2 b)).1 = 0 by omega) with h1 | h1
  · rw [h1, if_pos rfl] at e
    refine hX.alikeL 42 (n := 3) (fun i => zl ((fxb (S.2.1.2 a) ((ovs (S.2.1.2 a)).2 b)).2 i)) rfl (fun i hi => kw i hi) ?_
    rw [h1]
    refine hX.run (ft := ftX10) (ct := ctX10) (oc := []) kX10_fixed_ok ftX10_ok ctX10_ok xnoc [] [72, 81] [] 100 ?_
    refine hX.callV0 (rest := []) (k_keepObj_fr l so ce (nI S.2.1.1) mso mce (nI S.2.2.1.1) rme (nI S.2.2.2.1.1) sme n5 mks q f0 f1 f2 t0 t1 t2 we pa iv tu fo hal (nI (ovs (S.2.1.2 a)).1) va2 (fun i => zl (lss (S.2.1.2 a) ((ovs (S.2.1.2 a)).2 b) i)) (fun i => zl (adj9 (lss (S.2.1.2 a) ((ovs (S.2.1.2 a)).2 b)) i)) (fun i => zl (tr9 (adj9 (lss (S.2.1.2 a) ((ovs (S.2.1.2 a)).2 b))) i)) (nI S.2.2.2.2.1) eso ece be af bo tr sx (fun i => zl (S.2.1.2 a i)) se re p3 q3 r3 s3 S.1 hO 1 (by omega) rfl (fxb (S.2.1.2 a) ((ovs (S.2.1.2 a)).2 b)).2 hz hg) yX10_keepObject_ok lkX10_113 ivX10_keepObject slX10_keepObject ⟨rfl, rfl, by decide, by decide⟩ (kX10_fixed_ok.at 96 rfl) rfl rfl (by decide) rfl rfl rfl (fun _ _ q => by obtain ⟨_, _, _, -, -, rfl⟩ := q; rfl) (fun r9 G1 q => ?_)
    obtain ⟨so2, ce2, x2, rfl, q2, rfl⟩ := q
    refine hX.run (ft := ftX10) (ct := ctX10) (oc := []) kX10_fixed_ok ftX10_ok ctX10_ok xnoc [] [] [] 100 ?_
    rw [e]
    exact ⟨rfl, ⟨_, _, _, _, _, _, _, _, _, _, _, _, _, _, _, _, _, _, _, _, _, _, _, _, _, _, _, _, _, _, _, _, _, _, _, _, _, _, _, _, _, rfl, q2, addO_st (s := 1) _ _ (by omega) hO2, hM, hM4, hV.wide (addO_ge _ _ _ _), hW, hE, hE4, hE1⟩⟩
  · rw [h1, if_neg (by decide)] at e
    refine hX.alikeL 42 (n := 3) (fun i => zl ((fxb (S.2.1.2 a) ((ovs (S.2.1.2 a)).2 b)).2 i)) rfl (fun i hi => kw i hi) ?_
    rw [h1]
    refine hX.run (ft := ftX10) (ct := ctX10) (oc := []) kX10_fixed_ok ftX10_ok ctX10_ok xnoc [] [72, 81] [] 100 ?_
    refine hX.callV0 (rest := []) (k_keepObj_fr l so ce (nI S.2.1.1) mso mce (nI S.2.2.1.1) rme (nI S.2.2.2.1.1) sme n5 mks q f0 f1 f2 t0 t1 t2 we pa iv tu fo hal (nI (ovs (S.2.1.2 a)).1) va2 (fun i => zl (lss (S.2.1.2 a) ((ovs (S.2.1.2 a)).2 b) i)) (fun i => zl (adj9 (lss (S.2.1.2 a) ((ovs (S.2.1.2 a)).2 b)) i)) (fun i => zl (tr9 (adj9 (lss (S.2.1.2 a) ((ovs (S.2.1.2 a)).2 b))) i)) (nI S.2.2.2.2.1) eso ece be af bo tr sx (fun i => zl (S.2.1.2 a i)) se re p3 q3 r3 s3 S.1 hO 0 (by omega) rfl (fxb (S.2.1.2 a) ((ovs (S.2.1.2 a)).2 b)).2 hz hg) yX10_keepObject_ok lkX10_113 ivX10_keepObject slX10_keepObject ⟨rfl, rfl, by decide, by decide⟩ (kX10_fixed_ok.at 96 rfl) rfl rfl (by decide) rfl rfl rfl (fun _ _ q => by obtain ⟨_, _, _, -, -, rfl⟩ := q; rfl) (fun r9 G1 q => ?_)
    obtain ⟨so2, ce2, x2, rfl, q2, rfl⟩ := q
    refine hX.run (ft := ftX10) (ct := ctX10) (oc := []) kX10_fixed_ok ftX10_ok ctX10_ok xnoc [] [] [] 100 ?_
    rw [e]
    exact ⟨rfl, ⟨_, _, _, _, _, _, _, _, _, _, _, _, _, _, _, _, _, _, _, _, _, _, _, _, _, _, _, _, _, _, _, _, _, _, _, _, _, _, _, _, _, rfl, q2, addO_st (s := 0) _ _ (by omega) hO2, hM, hM4, hV.wide (addO_ge _ _ _ _), hW, hE, hE4, hE1⟩⟩

