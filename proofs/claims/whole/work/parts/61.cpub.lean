/-! the class's public calls, first part -/
theorem vI {a b : Int} (h : b = a) : some (Value.int (zi a)) = some (.int (zi b)) := by rw [h]
theorem vL {a b : Int} (h : b = a) : some (Value.long (zl a)) = some (.long (zl b)) := by rw [h]
theorem vI2 {b : Int} (h : b = -2) : some (Value.int (Int8.ofInt (-2)).toInt32) = some (.int (zi b)) := by rw [h]; rfl
theorem i32_of {k : Int32} {n : Nat} (hn : n ≤ 60) (h : 0 ≤ k.toInt ∧ k.toInt < n) : ∃ a, k = nI a ∧ a < n ∧ k.toInt = a := by
  refine ⟨k.toInt.toNat, Int32.toInt_inj.mp ?_, by omega, by omega⟩
  rw [nI_toInt (by omega)]
  omega
theorem srt3 {S : SO} (h2 : ∀ k, k < S.1 → S.2.1 k ≤ 2) (h60 : S.1 ≤ 60) (k : Int32) : (srtI S k.toInt = -1 ∧ ¬ (0 ≤ k.toInt ∧ k.toInt < S.1)) ∨ ∃ a, k = nI a ∧ a < S.1 ∧ (nI a).toInt = a ∧ ((S.2.1 a = 0 ∧ srtI S (nI a).toInt = 0) ∨ (S.2.1 a = 1 ∧ srtI S (nI a).toInt = 1) ∨ (S.2.1 a = 2 ∧ srtI S (nI a).toInt = 2)) := by
  by_cases h : 0 ≤ k.toInt ∧ k.toInt < S.1
  · obtain ⟨a, rfl, h1, h3⟩ := i32_of h60 h
    refine Or.inr ⟨a, rfl, h1, h3, ?_⟩
    have h4 := h2 a h1
    rw [h3, srtI_of h1]
    omega
  · refine Or.inl ⟨?_, h⟩
    unfold srtI
    rw [if_neg h]
theorem i32_lt0 {i : Int32} : i < 0 ↔ i.toInt < 0 := Int32.lt_iff_toInt_lt
theorem i32_ltn {i : Int32} {n : Nat} (hn : n ≤ 1000) : i < nI n ↔ i.toInt < n := by
  rw [Int32.lt_iff_toInt_lt, nI_toInt (by omega)]
set_option maxHeartbeats 4000000 in
set_option maxRecDepth 100000 in
theorem k_number (l : Launch) (S : SS) (G0 : List xE) (hG : CInv S G0) (k i : Int32) : xM l yX10_number cX10_number 5 (some .int) rX10_number [.ref 0, .int k, .int i] G0 (fun r9 G => r9 = some (.int (zi (sp_number S k.toInt i.toInt))) ∧ CInv S G) := by
  obtain ⟨so, ce, mso, mce, rme, sme, n5, mks, q, f0, f1, f2, t0, t1, t2, we, pa, iv, tu, fo, hal, n6, va, le, mi, co, fr, eso, ece, be, af, bo, tr, sx, fi, se, re, p3, q3, r3, s3, rfl, hO, hO2, hM, hM4, hV, hW, hE, hE4, hE1⟩ := hG
  refine xM.of (by decide) (Nat.le_of_ble_eq_true rfl) (fun X hX => ?_)
  have h60 := hO.1
  rcases srt3 hO2 hO.1 k with ⟨h, hn⟩ | ⟨a, rfl, ha, ea, hs⟩
  · have e : sp_number S k.toInt i.toInt = -1 := by unfold sp_number; rw [if_neg hn]
    refine hX.run (ft := ftX10) (ct := ctX10) (oc := []) kX10_number_ok ftX10_ok ctX10_ok xnoc [] [] [] 100 ?_
    refine hX.callV [1, 2, 3] [] (k_sortOf l S.1 60 so ce hO k) yX8_sortOf_ok lkX10_95 ivX8_sortOf slX8_sortOf ⟨rfl, rfl, by decide, by decide⟩ (kX10_number_ok.at 5 rfl) rfl rfl (by decide) rfl rfl rfl ⟨rfl, rfl, rfl, trivial⟩ rfl (fun _ _ q => by rw [q.2]) (fun r9 G1 q => ?_)
    obtain ⟨rfl, rfl⟩ := q
    rw [h]
    refine hX.run (ft := ftX10) (ct := ctX10) (oc := []) kX10_number_ok ftX10_ok ctX10_ok xnoc [] [11] [] 100 ?_
    exact ⟨vI e, ⟨_, _, _, _, _, _, _, _, _, _, _, _, _, _, _, _, _, _, _, _, _, _, _, _, _, _, _, _, _, _, _, _, _, _, _, _, _, _, _, _, _, rfl, hO, hO2, hM, hM4, hV, hW, hE, hE4, hE1⟩⟩
  have es : sp_number S (nI a).toInt i.toInt = if i.toInt = 6 then (S.1.2.1 a : Int) else if 0 ≤ i.toInt ∧ i.toInt < wid (S.1.2.1 a) then S.1.2.2 a i.toInt.toNat + 1000 else -2 := by
    unfold sp_number
    rw [ea, if_pos ⟨by omega, by omega⟩]
    rfl
  rcases hs with ⟨s1, s2⟩ | ⟨s1, s2⟩ | ⟨s1, s2⟩
  · rw [s1, show wid 0 = 3 from rfl] at es
    refine hX.run (ft := ftX10) (ct := ctX10) (oc := []) kX10_number_ok ftX10_ok ctX10_ok xnoc [] [] [] 100 ?_
    refine hX.callV [1, 2, 3] [] (k_sortOf l S.1 60 so ce hO (nI a)) yX8_sortOf_ok lkX10_95 ivX8_sortOf slX8_sortOf ⟨rfl, rfl, by decide, by decide⟩ (kX10_number_ok.at 5 rfl) rfl rfl (by decide) rfl rfl rfl ⟨rfl, rfl, rfl, trivial⟩ rfl (fun _ _ q => by rw [q.2]) (fun r9 G1 q => ?_)
    obtain ⟨rfl, rfl⟩ := q
    rw [s2]
    refine hX.run (ft := ftX10) (ct := ctX10) (oc := []) kX10_number_ok ftX10_ok ctX10_ok xnoc [] [11, 26] [] 100 ?_
    refine ⟨fun h6 => ?_, fun h6 => ?_⟩
    · have h7 : i = nI 6 := h6
      exact ⟨vI (by rw [es, h7]; rfl), ⟨_, _, _, _, _, _, _, _, _, _, _, _, _, _, _, _, _, _, _, _, _, _, _, _, _, _, _, _, _, _, _, _, _, _, _, _, _, _, _, _, _, rfl, hO, hO2, hM, hM4, hV, hW, hE, hE4, hE1⟩⟩
    have h7 : ¬ i.toInt = 6 := fun q => h6 (Int32.toInt_inj.mp (by rw [q]; rfl))
    rw [if_neg h7] at es
    refine ⟨fun h => ?_, fun h0 => ?_⟩
    · have h1 := i32_lt0.mp h
      exact ⟨vI2 (by rw [es, if_neg (by omega)]), ⟨_, _, _, _, _, _, _, _, _, _, _, _, _, _, _, _, _, _, _, _, _, _, _, _, _, _, _, _, _, _, _, _, _, _, _, _, _, _, _, _, _, rfl, hO, hO2, hM, hM4, hV, hW, hE, hE4, hE1⟩⟩
    refine ⟨fun h => ?_, fun h1 => ?_⟩
    rotate_left
    · have h1 : ¬ i < nI 3 := h1
      rw [i32_ltn (by omega)] at h1
      exact ⟨vI2 (by rw [es, if_neg (by omega)]), ⟨_, _, _, _, _, _, _, _, _, _, _, _, _, _, _, _, _, _, _, _, _, _, _, _, _, _, _, _, _, _, _, _, _, _, _, _, _, _, _, _, _, rfl, hO, hO2, hM, hM4, hV, hW, hE, hE4, hE1⟩⟩
    have h1 : i < nI 3 := h
    rw [i32_ltn (by omega)] at h1
    rw [i32_lt0] at h0
    obtain ⟨j, rfl, hj, ej⟩ := i32_of (k := i) (n := 3) (by omega) ⟨by omega, by omega⟩
    refine hX.callV [1, 2, 3] [] (k_cell l S.1.1 60 (by omega) so ce a j ha (by omega)) yX8_cell_ok lkX10_99 ivX8_cell slX8_cell ⟨rfl, rfl, by decide, by decide⟩ (kX10_number_ok.at 56 rfl) rfl rfl (by decide) rfl rfl rfl ⟨rfl, rfl, rfl, trivial⟩ rfl (fun _ _ q => by rw [q.2]) (fun r9 G1 q => ?_)
    obtain ⟨rfl, rfl⟩ := q
    have hc := (hO.2.2 a j ha (by rw [s1]; exact hj)).1
    rw [hc]
    refine hX.run (ft := ftX10) (ct := ctX10) (oc := []) kX10_number_ok ftX10_ok ctX10_ok xnoc [] [] [] 100 ?_
    refine ⟨?_, ⟨_, _, _, _, _, _, _, _, _, _, _, _, _, _, _, _, _, _, _, _, _, _, _, _, _, _, _, _, _, _, _, _, _, _, _, _, _, _, _, _, _, rfl, hO, hO2, hM, hM4, hV, hW, hE, hE4, hE1⟩⟩
    rw [es, if_pos ⟨by omega, by omega⟩, ej, Int.toNat_natCast, ← zi_add]
    rfl
  · rw [s1, show wid 1 = 3 from rfl] at es
    refine hX.run (ft := ftX10) (ct := ctX10) (oc := []) kX10_number_ok ftX10_ok ctX10_ok xnoc [] [] [] 100 ?_
    refine hX.callV [1, 2, 3] [] (k_sortOf l S.1 60 so ce hO (nI a)) yX8_sortOf_ok lkX10_95 ivX8_sortOf slX8_sortOf ⟨rfl, rfl, by decide, by decide⟩ (kX10_number_ok.at 5 rfl) rfl rfl (by decide) rfl rfl rfl ⟨rfl, rfl, rfl, trivial⟩ rfl (fun _ _ q => by rw [q.2]) (fun r9 G1 q => ?_)
    obtain ⟨rfl, rfl⟩ := q
    rw [s2]
    refine hX.run (ft := ftX10) (ct := ctX10) (oc := []) kX10_number_ok ftX10_ok ctX10_ok xnoc [] [11, 26] [] 100 ?_
    refine ⟨fun h6 => ?_, fun h6 => ?_⟩
    · have h7 : i = nI 6 := h6
      exact ⟨vI (by rw [es, h7]; rfl), ⟨_, _, _, _, _, _, _, _, _, _, _, _, _, _, _, _, _, _, _, _, _, _, _, _, _, _, _, _, _, _, _, _, _, _, _, _, _, _, _, _, _, rfl, hO, hO2, hM, hM4, hV, hW, hE, hE4, hE1⟩⟩
    have h7 : ¬ i.toInt = 6 := fun q => h6 (Int32.toInt_inj.mp (by rw [q]; rfl))
    rw [if_neg h7] at es
    refine ⟨fun h => ?_, fun h0 => ?_⟩
    · have h1 := i32_lt0.mp h
      exact ⟨vI2 (by rw [es, if_neg (by omega)]), ⟨_, _, _, _, _, _, _, _, _, _, _, _, _, _, _, _, _, _, _, _, _, _, _, _, _, _, _, _, _, _, _, _, _, _, _, _, _, _, _, _, _, rfl, hO, hO2, hM, hM4, hV, hW, hE, hE4, hE1⟩⟩
    refine ⟨fun h => ?_, fun h1 => ?_⟩
    rotate_left
    · have h1 : ¬ i < nI 3 := h1
      rw [i32_ltn (by omega)] at h1
      exact ⟨vI2 (by rw [es, if_neg (by omega)]), ⟨_, _, _, _, _, _, _, _, _, _, _, _, _, _, _, _, _, _, _, _, _, _, _, _, _, _, _, _, _, _, _, _, _, _, _, _, _, _, _, _, _, rfl, hO, hO2, hM, hM4, hV, hW, hE, hE4, hE1⟩⟩
    have h1 : i < nI 3 := h
    rw [i32_ltn (by omega)] at h1
    rw [i32_lt0] at h0
    obtain ⟨j, rfl, hj, ej⟩ := i32_of (k := i) (n := 3) (by omega) ⟨by omega, by omega⟩
    refine hX.callV [1, 2, 3] [] (k_cell l S.1.1 60 (by omega) so ce a j ha (by omega)) yX8_cell_ok lkX10_99 ivX8_cell slX8_cell ⟨rfl, rfl, by decide, by decide⟩ (kX10_number_ok.at 56 rfl) rfl rfl (by decide) rfl rfl rfl ⟨rfl, rfl, rfl, trivial⟩ rfl (fun _ _ q => by rw [q.2]) (fun r9 G1 q => ?_)
    obtain ⟨rfl, rfl⟩ := q
    have hc := (hO.2.2 a j ha (by rw [s1]; exact hj)).1
    rw [hc]
    refine hX.run (ft := ftX10) (ct := ctX10) (oc := []) kX10_number_ok ftX10_ok ctX10_ok xnoc [] [] [] 100 ?_
    refine ⟨?_, ⟨_, _, _, _, _, _, _, _, _, _, _, _, _, _, _, _, _, _, _, _, _, _, _, _, _, _, _, _, _, _, _, _, _, _, _, _, _, _, _, _, _, rfl, hO, hO2, hM, hM4, hV, hW, hE, hE4, hE1⟩⟩
    rw [es, if_pos ⟨by omega, by omega⟩, ej, Int.toNat_natCast, ← zi_add]
    rfl
  · rw [s1, show wid 2 = 6 from rfl] at es
    refine hX.run (ft := ftX10) (ct := ctX10) (oc := []) kX10_number_ok ftX10_ok ctX10_ok xnoc [] [] [] 100 ?_
    refine hX.callV [1, 2, 3] [] (k_sortOf l S.1 60 so ce hO (nI a)) yX8_sortOf_ok lkX10_95 ivX8_sortOf slX8_sortOf ⟨rfl, rfl, by decide, by decide⟩ (kX10_number_ok.at 5 rfl) rfl rfl (by decide) rfl rfl rfl ⟨rfl, rfl, rfl, trivial⟩ rfl (fun _ _ q => by rw [q.2]) (fun r9 G1 q => ?_)
    obtain ⟨rfl, rfl⟩ := q
    rw [s2]
    refine hX.run (ft := ftX10) (ct := ctX10) (oc := []) kX10_number_ok ftX10_ok ctX10_ok xnoc [] [11, 26] [] 100 ?_
    refine ⟨fun h6 => ?_, fun h6 => ?_⟩
    · have h7 : i = nI 6 := h6
      exact ⟨vI (by rw [es, h7]; rfl), ⟨_, _, _, _, _, _, _, _, _, _, _, _, _, _, _, _, _, _, _, _, _, _, _, _, _, _, _, _, _, _, _, _, _, _, _, _, _, _, _, _, _, rfl, hO, hO2, hM, hM4, hV, hW, hE, hE4, hE1⟩⟩
    have h7 : ¬ i.toInt = 6 := fun q => h6 (Int32.toInt_inj.mp (by rw [q]; rfl))
    rw [if_neg h7] at es
    refine ⟨fun h => ?_, fun h0 => ?_⟩
    · have h1 := i32_lt0.mp h
      exact ⟨vI2 (by rw [es, if_neg (by omega)]), ⟨_, _, _, _, _, _, _, _, _, _, _, _, _, _, _, _, _, _, _, _, _, _, _, _, _, _, _, _, _, _, _, _, _, _, _, _, _, _, _, _, _, rfl, hO, hO2, hM, hM4, hV, hW, hE, hE4, hE1⟩⟩
    refine ⟨fun h => ?_, fun h1 => ?_⟩
    rotate_left
    · have h1 : ¬ i < nI 6 := h1
      rw [i32_ltn (by omega)] at h1
      exact ⟨vI2 (by rw [es, if_neg (by omega)]), ⟨_, _, _, _, _, _, _, _, _, _, _, _, _, _, _, _, _, _, _, _, _, _, _, _, _, _, _, _, _, _, _, _, _, _, _, _, _, _, _, _, _, rfl, hO, hO2, hM, hM4, hV, hW, hE, hE4, hE1⟩⟩
    have h1 : i < nI 6 := h
    rw [i32_ltn (by omega)] at h1
    rw [i32_lt0] at h0
    obtain ⟨j, rfl, hj, ej⟩ := i32_of (k := i) (n := 6) (by omega) ⟨by omega, by omega⟩
    refine hX.callV [1, 2, 3] [] (k_cell l S.1.1 60 (by omega) so ce a j ha (by omega)) yX8_cell_ok lkX10_99 ivX8_cell slX8_cell ⟨rfl, rfl, by decide, by decide⟩ (kX10_number_ok.at 56 rfl) rfl rfl (by decide) rfl rfl rfl ⟨rfl, rfl, rfl, trivial⟩ rfl (fun _ _ q => by rw [q.2]) (fun r9 G1 q => ?_)
    obtain ⟨rfl, rfl⟩ := q
    have hc := (hO.2.2 a j ha (by rw [s1]; exact hj)).1
    rw [hc]
    refine hX.run (ft := ftX10) (ct := ctX10) (oc := []) kX10_number_ok ftX10_ok ctX10_ok xnoc [] [] [] 100 ?_
    refine ⟨?_, ⟨_, _, _, _, _, _, _, _, _, _, _, _, _, _, _, _, _, _, _, _, _, _, _, _, _, _, _, _, _, _, _, _, _, _, _, _, _, _, _, _, _, rfl, hO, hO2, hM, hM4, hV, hW, hE, hE4, hE1⟩⟩
    rw [es, if_pos ⟨by omega, by omega⟩, ej, Int.toNat_natCast, ← zi_add]
    rfl

set_option maxHeartbeats 4000000 in
set_option maxRecDepth 100000 in
theorem k_join (l : Launch) (S : SS) (G0 : List xE) (hG : CInv S G0) (hap : apartO S.1) (p q0 : Int32) : xM l yX10_join cX10_join 4 (some .int) rX10_join [.ref 0, .int p, .int q0] G0 (fun r9 G => r9 = some (.int (zi (sp_join S p.toInt q0.toInt).1)) ∧ CInv (sp_join S p.toInt q0.toInt).2 G) := by
  obtain ⟨so, ce, mso, mce, rme, sme, n5, mks, q, f0, f1, f2, t0, t1, t2, we, pa, iv, tu, fo, hal, n6, va, le, mi, co, fr, eso, ece, be, af, bo, tr, sx, fi, se, re, p3, q3, r3, s3, rfl, hO, hO2, hM, hM4, hV, hW, hE, hE4, hE1⟩ := hG
  refine xM.of (by decide) (Nat.le_of_ble_eq_true rfl) (fun X hX => ?_)
  have h60 := hO.1
  have bad : ¬ ((srtI S.1 p.toInt = 0 ∧ srtI S.1 q0.toInt = 0) ∨ (srtI S.1 p.toInt = 1 ∧ srtI S.1 q0.toInt = 1)) → sp_join S p.toInt q0.toInt = (-1, S) := by
    intro h
    unfold sp_join sp_joinO
    rw [if_neg h]
    rfl
  have good : ∀ (a b s : Nat), p = nI a → q0 = nI b → a < S.1.1 → b < S.1.1 → (nI a).toInt = a → (nI b).toInt = b → S.1.2.1 a = s → S.1.2.1 b = s → s ≤ 1 → X 32 [some (.ref 0), some (.int p), some (.int q0), some (.int (nI s))] [] (GC (nI S.1.1) so ce (nI S.2.1.1) mso mce (nI S.2.2.1.1) rme (nI S.2.2.2.1.1) sme n5 mks q f0 f1 f2 t0 t1 t2 we pa iv tu fo hal n6 va le mi co fr (nI S.2.2.2.2.1) eso ece be af bo tr sx fi se re p3 q3 r3 s3) := by
    rintro a b s rfl rfl ha hb ea eb sa sb hs
    have hor : (srtI S.1 (a : Int) = 0 ∧ srtI S.1 (b : Int) = 0) ∨ (srtI S.1 (a : Int) = 1 ∧ srtI S.1 (b : Int) = 1) := by
      rw [srtI_of ha, srtI_of hb, sa, sb]
      omega
    have w3 : wd s = 3 := by unfold wd; rw [if_neg (by omega), if_neg (by omega)]
    refine hX.run (ft := ftX10) (ct := ctX10) (oc := []) kX10_join_ok ftX10_ok ctX10_ok xnoc [40] [] [] 100 ?_
    refine ⟨fun h => ?_, fun h => ?_⟩
    · have hab : nI a = nI b := h
      have e : sp_join S (nI a).toInt (nI b).toInt = (-3, S) := by
        unfold sp_join sp_joinO
        rw [← hab, ea, if_pos (by
          rw [srtI_of ha, sa]
          omega), if_pos rfl]
        rfl
      rw [e]
      exact ⟨rfl, ⟨_, _, _, _, _, _, _, _, _, _, _, _, _, _, _, _, _, _, _, _, _, _, _, _, _, _, _, _, _, _, _, _, _, _, _, _, _, _, _, _, _, rfl, hO, hO2, hM, hM4, hV, hW, hE, hE4, hE1⟩⟩
    have hab : a ≠ b := fun q => h (by rw [q])
    obtain ⟨i, hi, hne⟩ := hap a b ha hb hab (by rw [sa, sb]) (by omega)
    have hz : ∀ i, i < 3 → jr (crs (S.1.2.2 a) (S.1.2.2 b) i) := fun i hi => ab_jr (crs_bd (fun i hi => (hO.2.2 a i ha (by rw [sa, w3]; exact hi)).2) (fun i hi => (hO.2.2 b i hb (by rw [sb, w3]; exact hi)).2) i) (by decide)
    have e : sp_join S (nI a).toInt (nI b).toInt = withO (addO S.1 (if s = 0 then 1 else 0) 3 (crs (S.1.2.2 a) (S.1.2.2 b))) S := by
      unfold sp_join sp_joinO
      rw [ea, eb, if_pos hor, if_neg (by omega), srtI_of ha, sa, Int.toNat_natCast, Int.toNat_natCast]
      congr 2
      by_cases h0 : s = 0
      · rw [if_pos (by omega), if_pos h0]
      · rw [if_neg (by omega), if_neg h0]
    refine hX.run (ft := ftX10) (ct := ctX10) (oc := []) kX10_join_ok ftX10_ok ctX10_ok xnoc [] [] [] 100 ?_
    refine hX.callV [1, 2, 3, 55] [] (k_load l S.1 60 so ce hO a ha 3 (by rw [sa, w3]; exact Nat.le_refl 3) _) yX8_load_ok lkX10_103 ivX8_load slX8_load ⟨rfl, rfl, by decide, by decide⟩ (kX10_join_ok.at 49 rfl) rfl rfl (by decide) rfl rfl rfl ⟨rfl, rfl, rfl, rfl, trivial⟩ rfl (fun _ _ q => by rw [q.2]; rfl) (fun r9 G1 q => ?_)
    obtain ⟨rfl, rfl⟩ := q
    refine hX.run (ft := ftX10) (ct := ctX10) (oc := []) kX10_join_ok ftX10_ok ctX10_ok xnoc [] [] [] 100 ?_
    refine hX.callV [1, 2, 3, 56] [] (k_load l S.1 60 so ce hO b hb 3 (by rw [sb, w3]; exact Nat.le_refl 3) _) yX8_load_ok lkX10_103 ivX8_load slX8_load ⟨rfl, rfl, by decide, by decide⟩ (kX10_join_ok.at 61 rfl) rfl rfl (by decide) rfl rfl rfl ⟨rfl, rfl, rfl, rfl, trivial⟩ rfl (fun _ _ q => by rw [q.2]; rfl) (fun r9 G1 q => ?_)
    obtain ⟨rfl, rfl⟩ := q
    refine hX.run (ft := ftX10) (ct := ctX10) (oc := []) kX10_join_ok ftX10_ok ctX10_ok xnoc [] [] [] 100 ?_
    refine hX.callS [55, 56, 50] [] (k_wedge l (S.1.2.2 a) (S.1.2.2 b) tr) yX7_wedge_ok lkX10_107 ssX7_wedge ⟨rfl, rfl, by decide, by decide⟩ (kX10_join_ok.at 76 rfl) rfl rfl (by decide) ⟨rfl, rfl, rfl, trivial⟩ rfl (fun _ _ q => by rw [q.2]; rfl) (fun r9 G1 q => ?_)
    obtain ⟨rfl, rfl⟩ := q
    rcases (show s = 0 ∨ s = 1 by omega) with rfl | rfl
    · refine hX.run (ft := ftX10) (ct := ctX10) (oc := []) kX10_join_ok ftX10_ok ctX10_ok xnoc [] [81] [] 100 ?_
      refine hX.callV0 (rest := []) (k_keepObj_tr l so ce (nI S.2.1.1) mso mce (nI S.2.2.1.1) rme (nI S.2.2.2.1.1) sme n5 mks q f0 f1 f2 t0 t1 t2 we pa iv tu fo hal n6 va le mi co fr (nI S.2.2.2.2.1) eso ece be af bo sx fi se re (fun i => zl (S.1.2.2 a i)) (fun i => zl (S.1.2.2 b i)) r3 s3 S.1 hO 1 (by omega) rfl (crs (S.1.2.2 a) (S.1.2.2 b)) hz (gN_ne hi hne)) yX10_keepObject_ok lkX10_113 ivX10_keepObject slX10_keepObject ⟨rfl, rfl, by decide, by decide⟩ (kX10_join_ok.at 93 rfl) rfl rfl (by decide) rfl rfl rfl (fun _ _ q => by obtain ⟨_, _, _, -, -, rfl⟩ := q; rfl) (fun r9 G1 q => ?_)
      obtain ⟨so2, ce2, x2, rfl, q2, rfl⟩ := q
      refine hX.run (ft := ftX10) (ct := ctX10) (oc := []) kX10_join_ok ftX10_ok ctX10_ok xnoc [] [] [] 100 ?_
      rw [e]
      exact ⟨rfl, ⟨_, _, _, _, _, _, _, _, _, _, _, _, _, _, _, _, _, _, _, _, _, _, _, _, _, _, _, _, _, _, _, _, _, _, _, _, _, _, _, _, _, rfl, q2, addO_st (s := 1) _ _ (by omega) hO2, hM, hM4, hV.wide (addO_ge _ _ _ _), hW, hE, hE4, hE1⟩⟩
    · refine hX.run (ft := ftX10) (ct := ctX10) (oc := []) kX10_join_ok ftX10_ok ctX10_ok xnoc [] [81] [] 100 ?_
      refine hX.callV0 (rest := []) (k_keepObj_tr l so ce (nI S.2.1.1) mso mce (nI S.2.2.1.1) rme (nI S.2.2.2.1.1) sme n5 mks q f0 f1 f2 t0 t1 t2 we pa iv tu fo hal n6 va le mi co fr (nI S.2.2.2.2.1) eso ece be af bo sx fi se re (fun i => zl (S.1.2.2 a i)) (fun i => zl (S.1.2.2 b i)) r3 s3 S.1 hO 0 (by omega) rfl (crs (S.1.2.2 a) (S.1.2.2 b)) hz (gN_ne hi hne)) yX10_keepObject_ok lkX10_113 ivX10_keepObject slX10_keepObject ⟨rfl, rfl, by decide, by decide⟩ (kX10_join_ok.at 93 rfl) rfl rfl (by decide) rfl rfl rfl (fun _ _ q => by obtain ⟨_, _, _, -, -, rfl⟩ := q; rfl) (fun r9 G1 q => ?_)
      obtain ⟨so2, ce2, x2, rfl, q2, rfl⟩ := q
      refine hX.run (ft := ftX10) (ct := ctX10) (oc := []) kX10_join_ok ftX10_ok ctX10_ok xnoc [] [] [] 100 ?_
      rw [e]
      exact ⟨rfl, ⟨_, _, _, _, _, _, _, _, _, _, _, _, _, _, _, _, _, _, _, _, _, _, _, _, _, _, _, _, _, _, _, _, _, _, _, _, _, _, _, _, _, rfl, q2, addO_st (s := 0) _ _ (by omega) hO2, hM, hM4, hV.wide (addO_ge _ _ _ _), hW, hE, hE4, hE1⟩⟩
  rcases srt3 hO2 hO.1 p with ⟨h, hn⟩ | ⟨a, rfl, ha, ea, hs⟩
  · have eb := bad (by rw [h]; omega)
    refine hX.run (ft := ftX10) (ct := ctX10) (oc := []) kX10_join_ok ftX10_ok ctX10_ok xnoc [] [] [] 100 ?_
    refine hX.callV [1, 2, 3] [] (k_sortOf l S.1 60 so ce hO p) yX8_sortOf_ok lkX10_95 ivX8_sortOf slX8_sortOf ⟨rfl, rfl, by decide, by decide⟩ (kX10_join_ok.at 5 rfl) rfl rfl (by decide) rfl rfl rfl ⟨rfl, rfl, rfl, trivial⟩ rfl (fun _ _ q => by rw [q.2]) (fun r9 G1 q => ?_)
    obtain ⟨rfl, rfl⟩ := q
    rw [h]
    refine hX.run (ft := ftX10) (ct := ctX10) (oc := []) kX10_join_ok ftX10_ok ctX10_ok xnoc [] [10, 15] [] 100 ?_
    rw [eb]
    exact ⟨rfl, ⟨_, _, _, _, _, _, _, _, _, _, _, _, _, _, _, _, _, _, _, _, _, _, _, _, _, _, _, _, _, _, _, _, _, _, _, _, _, _, _, _, _, rfl, hO, hO2, hM, hM4, hV, hW, hE, hE4, hE1⟩⟩
  rcases (show (S.1.2.1 a = 2 ∧ srtI S.1 (nI a).toInt = 2) ∨ ∃ s : Nat, s ≤ 1 ∧ S.1.2.1 a = s ∧ srtI S.1 (nI a).toInt = s by
    rcases hs with h | h | h
    · exact Or.inr ⟨0, by omega, h.1, h.2⟩
    · exact Or.inr ⟨1, by omega, h.1, h.2⟩
    · exact Or.inl h) with ⟨h1, h2⟩ | ⟨s, hs1, h1, h2⟩
  · have eb := bad (by rw [h2]; omega)
    refine hX.run (ft := ftX10) (ct := ctX10) (oc := []) kX10_join_ok ftX10_ok ctX10_ok xnoc [] [] [] 100 ?_
    refine hX.callV [1, 2, 3] [] (k_sortOf l S.1 60 so ce hO (nI a)) yX8_sortOf_ok lkX10_95 ivX8_sortOf slX8_sortOf ⟨rfl, rfl, by decide, by decide⟩ (kX10_join_ok.at 5 rfl) rfl rfl (by decide) rfl rfl rfl ⟨rfl, rfl, rfl, trivial⟩ rfl (fun _ _ q => by rw [q.2]) (fun r9 G1 q => ?_)
    obtain ⟨rfl, rfl⟩ := q
    rw [h2]
    refine hX.run (ft := ftX10) (ct := ctX10) (oc := []) kX10_join_ok ftX10_ok ctX10_ok xnoc [] [10, 15] [] 100 ?_
    rw [eb]
    exact ⟨rfl, ⟨_, _, _, _, _, _, _, _, _, _, _, _, _, _, _, _, _, _, _, _, _, _, _, _, _, _, _, _, _, _, _, _, _, _, _, _, _, _, _, _, _, rfl, hO, hO2, hM, hM4, hV, hW, hE, hE4, hE1⟩⟩
  have second : X 18 [some (.ref 0), some (.int (nI a)), some (.int q0), some (.int (nI s))] [] (GC (nI S.1.1) so ce (nI S.2.1.1) mso mce (nI S.2.2.1.1) rme (nI S.2.2.2.1.1) sme n5 mks q f0 f1 f2 t0 t1 t2 we pa iv tu fo hal n6 va le mi co fr (nI S.2.2.2.2.1) eso ece be af bo tr sx fi se re p3 q3 r3 s3) := by
    have hz2 : ∀ b : Int, -1 ≤ b → b ≤ 2 → (zi b = nI s ↔ b = s) := by
      intro b b1 b2
      rw [← Int32.toInt_inj, zi_to (by omega), nI_toInt (by omega)]
    have hb2 : -1 ≤ srtI S.1 q0.toInt ∧ srtI S.1 q0.toInt ≤ 2 := by
      rcases srt3 hO2 hO.1 q0 with ⟨h, _⟩ | ⟨b, rfl, _, _, ⟨_, h⟩ | ⟨_, h⟩ | ⟨_, h⟩⟩ <;> rw [h] <;> omega
    refine hX.run (ft := ftX10) (ct := ctX10) (oc := []) kX10_join_ok ftX10_ok ctX10_ok xnoc [] [] [] 100 ?_
    refine hX.callV [1, 2, 3] [] (k_sortOf l S.1 60 so ce hO q0) yX8_sortOf_ok lkX10_95 ivX8_sortOf slX8_sortOf ⟨rfl, rfl, by decide, by decide⟩ (kX10_join_ok.at 23 rfl) rfl rfl (by decide) rfl rfl rfl ⟨rfl, rfl, rfl, trivial⟩ rfl (fun _ _ q => by rw [q.2]) (fun r9 G1 q => ?_)
    obtain ⟨rfl, rfl⟩ := q
    refine hX.run (ft := ftX10) (ct := ctX10) (oc := []) kX10_join_ok ftX10_ok ctX10_ok xnoc [32] [] [] 100 ?_
    refine ⟨fun h => ?_, fun h => ?_⟩
    · have hq := (hz2 _ hb2.1 hb2.2).mp h
      obtain ⟨b, b1, b2, b3⟩ := srtI_nn hq
      have eq : q0 = nI b := Int32.toInt_inj.mp (by rw [b2, nI_toInt (by omega)])
      exact good a b s rfl eq ha b1 ea (nI_toInt (by omega)) h1 b3 hs1
    · have hq : ¬ srtI S.1 q0.toInt = s := fun q => h ((hz2 _ hb2.1 hb2.2).mpr q)
      rw [bad (by rw [h2]; omega)]
      exact ⟨rfl, ⟨_, _, _, _, _, _, _, _, _, _, _, _, _, _, _, _, _, _, _, _, _, _, _, _, _, _, _, _, _, _, _, _, _, _, _, _, _, _, _, _, _, rfl, hO, hO2, hM, hM4, hV, hW, hE, hE4, hE1⟩⟩
  refine hX.run (ft := ftX10) (ct := ctX10) (oc := []) kX10_join_ok ftX10_ok ctX10_ok xnoc [] [] [] 100 ?_
  refine hX.callV [1, 2, 3] [] (k_sortOf l S.1 60 so ce hO (nI a)) yX8_sortOf_ok lkX10_95 ivX8_sortOf slX8_sortOf ⟨rfl, rfl, by decide, by decide⟩ (kX10_join_ok.at 5 rfl) rfl rfl (by decide) rfl rfl rfl ⟨rfl, rfl, rfl, trivial⟩ rfl (fun _ _ q => by rw [q.2]) (fun r9 G1 q => ?_)
  obtain ⟨rfl, rfl⟩ := q
  rw [h2, zi_nI]
  rcases (show s = 0 ∨ s = 1 by omega) with rfl | rfl
  · refine hX.run (ft := ftX10) (ct := ctX10) (oc := []) kX10_join_ok ftX10_ok ctX10_ok xnoc [18] [10, 15] [] 100 ?_
    exact second
  · refine hX.run (ft := ftX10) (ct := ctX10) (oc := []) kX10_join_ok ftX10_ok ctX10_ok xnoc [18] [10, 15] [] 100 ?_
    exact second
set_option maxHeartbeats 4000000 in
set_option maxRecDepth 100000 in
theorem k_give (l : Launch) (S : SS) (G0 : List xE) (hG : CInv S G0) (k : Int32) : xM l yX10_give cX10_give 2 (some .int) rX10_give [.ref 0, .int k] G0 (fun r9 G => r9 = some (.int (zi (sp_give S k.toInt).1)) ∧ CInv (sp_give S k.toInt).2 G) := by
  obtain ⟨so, ce, mso, mce, rme, sme, n5, mks, q, f0, f1, f2, t0, t1, t2, we, pa, iv, tu, fo, hal, n6, va, le, mi, co, fr, eso, ece, be, af, bo, tr, sx, fi, se, re, p3, q3, r3, s3, rfl, hO, hO2, hM, hM4, hV, hW, hE, hE4, hE1⟩ := hG
  refine xM.of (by decide) (Nat.le_of_ble_eq_true rfl) (fun X hX => ?_)
  have h60 := hO.1
  have h8 := hV.1
  by_cases hk : 0 ≤ k.toInt ∧ k.toInt < S.1.1
  · obtain ⟨a, rfl, ha, ea⟩ := i32_of (by omega) hk
    have e : sp_give S (nI a).toInt = ((apV 8 S.2.2.1 a).1, (S.1, S.2.1, (apV 8 S.2.2.1 a).2, S.2.2.2)) := by
      unfold sp_give apV
      rw [ea, if_pos ⟨by omega, by omega⟩, Int.toNat_natCast]
      by_cases h : S.2.2.1.1 = 8
      · rw [if_pos h, if_pos (by omega)]
      · rw [if_neg h, if_neg (by omega)]
    refine hX.run (ft := ftX10) (ct := ctX10) (oc := []) kX10_give_ok ftX10_ok ctX10_ok xnoc [] [] [] 100 ?_
    refine hX.callV [1, 2, 3] [] (k_has l S.1.1 60 (by omega) so ce (nI a)) yX8_has_ok lkX10_135 ivX8_has slX8_has ⟨rfl, rfl, by decide, by decide⟩ (kX10_give_ok.at 5 rfl) rfl rfl (by decide) rfl rfl rfl ⟨rfl, rfl, rfl, trivial⟩ rfl (fun _ _ q => by rw [q.2]) (fun r9 G1 q => ?_)
    obtain ⟨rfl, rfl⟩ := q
    rw [decide_eq_true hk]
    refine hX.run (ft := ftX10) (ct := ctX10) (oc := []) kX10_give_ok ftX10_ok ctX10_ok xnoc [] [8] [] 100 ?_
    refine hX.callV [7, 8] [] (k_append l S.2.2.1 8 S.1.1 (by omega) (by omega) rme hV a ha) yX4_append_ok lkX10_139 ivX4_append slX4_append ⟨rfl, rfl, by decide, by decide⟩ (kX10_give_ok.at 16 rfl) rfl rfl (by decide) rfl rfl rfl ⟨rfl, rfl, trivial⟩ rfl (fun _ _ q => by obtain ⟨_, -, -, rfl⟩ := q; rfl) (fun r9 G1 q => ?_)
    obtain ⟨me2, rfl, q2, rfl⟩ := q
    refine hX.run (ft := ftX10) (ct := ctX10) (oc := []) kX10_give_ok ftX10_ok ctX10_ok xnoc [] [] [] 100 ?_
    rw [e]
    exact ⟨rfl, ⟨_, _, _, _, _, _, _, _, _, _, _, _, _, _, _, _, _, _, _, _, _, _, _, _, _, _, _, _, _, _, _, _, _, _, _, _, _, _, _, _, _, rfl, hO, hO2, hM, hM4, q2, hW, hE, hE4, hE1⟩⟩
  · have e : sp_give S k.toInt = (-1, S) := by unfold sp_give; rw [if_neg hk]
    refine hX.run (ft := ftX10) (ct := ctX10) (oc := []) kX10_give_ok ftX10_ok ctX10_ok xnoc [] [] [] 100 ?_
    refine hX.callV [1, 2, 3] [] (k_has l S.1.1 60 (by omega) so ce k) yX8_has_ok lkX10_135 ivX8_has slX8_has ⟨rfl, rfl, by decide, by decide⟩ (kX10_give_ok.at 5 rfl) rfl rfl (by decide) rfl rfl rfl ⟨rfl, rfl, rfl, trivial⟩ rfl (fun _ _ q => by rw [q.2]) (fun r9 G1 q => ?_)
    obtain ⟨rfl, rfl⟩ := q
    rw [decide_eq_false hk]
    refine hX.run (ft := ftX10) (ct := ctX10) (oc := []) kX10_give_ok ftX10_ok ctX10_ok xnoc [] [8] [] 100 ?_
    rw [e]
    exact ⟨rfl, ⟨_, _, _, _, _, _, _, _, _, _, _, _, _, _, _, _, _, _, _, _, _, _, _, _, _, _, _, _, _, _, _, _, _, _, _, _, _, _, _, _, _, rfl, hO, hO2, hM, hM4, hV, hW, hE, hE4, hE1⟩⟩
set_option maxHeartbeats 4000000 in
set_option maxRecDepth 100000 in
theorem k_seed (l : Launch) (S : SS) (G0 : List xE) (hG : CInv S G0) (k : Int32) : xM l yX10_seed cX10_seed 2 (some .int) rX10_seed [.ref 0, .int k] G0 (fun r9 G => r9 = some (.int (zi (sp_seed S k.toInt).1)) ∧ CInv (sp_seed S k.toInt).2 G) := by
  obtain ⟨so, ce, mso, mce, rme, sme, n5, mks, q, f0, f1, f2, t0, t1, t2, we, pa, iv, tu, fo, hal, n6, va, le, mi, co, fr, eso, ece, be, af, bo, tr, sx, fi, se, re, p3, q3, r3, s3, rfl, hO, hO2, hM, hM4, hV, hW, hE, hE4, hE1⟩ := hG
  refine xM.of (by decide) (Nat.le_of_ble_eq_true rfl) (fun X hX => ?_)
  have h60 := hO.1
  have h8 := hW.1
  by_cases hk : 0 ≤ k.toInt ∧ k.toInt < S.2.1.1
  · obtain ⟨a, rfl, ha, ea⟩ := i32_of (by omega) hk
    have e : sp_seed S (nI a).toInt = ((apV 4 S.2.2.2.1 a).1, (S.1, S.2.1, S.2.2.1, (apV 4 S.2.2.2.1 a).2, S.2.2.2.2)) := by
      unfold sp_seed apV
      rw [ea, if_pos ⟨by omega, by omega⟩, Int.toNat_natCast]
      by_cases h : S.2.2.2.1.1 = 4
      · rw [if_pos h, if_pos (by omega)]
      · rw [if_neg h, if_neg (by omega)]
    refine hX.run (ft := ftX10) (ct := ctX10) (oc := []) kX10_seed_ok ftX10_ok ctX10_ok xnoc [] [] [] 100 ?_
    refine hX.callV [4, 5, 6] [] (k_has l S.2.1.1 40 (by omega) mso mce (nI a)) yX8_has_ok lkX10_135 ivX8_has slX8_has ⟨rfl, rfl, by decide, by decide⟩ (kX10_seed_ok.at 5 rfl) rfl rfl (by decide) rfl rfl rfl ⟨rfl, rfl, rfl, trivial⟩ rfl (fun _ _ q => by rw [q.2]) (fun r9 G1 q => ?_)
    obtain ⟨rfl, rfl⟩ := q
    rw [decide_eq_true hk]
    refine hX.run (ft := ftX10) (ct := ctX10) (oc := []) kX10_seed_ok ftX10_ok ctX10_ok xnoc [] [8] [] 100 ?_
    refine hX.callV [9, 10] [] (k_append l S.2.2.2.1 4 S.2.1.1 (by omega) (by omega) sme hW a ha) yX4_append_ok lkX10_139 ivX4_append slX4_append ⟨rfl, rfl, by decide, by decide⟩ (kX10_seed_ok.at 16 rfl) rfl rfl (by decide) rfl rfl rfl ⟨rfl, rfl, trivial⟩ rfl (fun _ _ q => by obtain ⟨_, -, -, rfl⟩ := q; rfl) (fun r9 G1 q => ?_)
    obtain ⟨me2, rfl, q2, rfl⟩ := q
    refine hX.run (ft := ftX10) (ct := ctX10) (oc := []) kX10_seed_ok ftX10_ok ctX10_ok xnoc [] [] [] 100 ?_
    rw [e]
    exact ⟨rfl, ⟨_, _, _, _, _, _, _, _, _, _, _, _, _, _, _, _, _, _, _, _, _, _, _, _, _, _, _, _, _, _, _, _, _, _, _, _, _, _, _, _, _, rfl, hO, hO2, hM, hM4, hV, q2, hE, hE4, hE1⟩⟩
  · have e : sp_seed S k.toInt = (-1, S) := by unfold sp_seed; rw [if_neg hk]
    refine hX.run (ft := ftX10) (ct := ctX10) (oc := []) kX10_seed_ok ftX10_ok ctX10_ok xnoc [] [] [] 100 ?_
    refine hX.callV [4, 5, 6] [] (k_has l S.2.1.1 40 (by omega) mso mce k) yX8_has_ok lkX10_135 ivX8_has slX8_has ⟨rfl, rfl, by decide, by decide⟩ (kX10_seed_ok.at 5 rfl) rfl rfl (by decide) rfl rfl rfl ⟨rfl, rfl, rfl, trivial⟩ rfl (fun _ _ q => by rw [q.2]) (fun r9 G1 q => ?_)
    obtain ⟨rfl, rfl⟩ := q
    rw [decide_eq_false hk]
    refine hX.run (ft := ftX10) (ct := ctX10) (oc := []) kX10_seed_ok ftX10_ok ctX10_ok xnoc [] [8] [] 100 ?_
    rw [e]
    exact ⟨rfl, ⟨_, _, _, _, _, _, _, _, _, _, _, _, _, _, _, _, _, _, _, _, _, _, _, _, _, _, _, _, _, _, _, _, _, _, _, _, _, _, _, _, _, rfl, hO, hO2, hM, hM4, hV, hW, hE, hE4, hE1⟩⟩
set_option maxHeartbeats 4000000 in
set_option maxRecDepth 100000 in
theorem k_count (l : Launch) (S : SS) (G0 : List xE) (hG : CInv S G0) (w : Int32) : xM l yX10_count cX10_count 2 (some .int) rX10_count [.ref 0, .int w] G0 (fun r9 G => r9 = some (.int (zi (sp_count S w.toInt))) ∧ CInv S G) := by
  obtain ⟨so, ce, mso, mce, rme, sme, n5, mks, q, f0, f1, f2, t0, t1, t2, we, pa, iv, tu, fo, hal, n6, va, le, mi, co, fr, eso, ece, be, af, bo, tr, sx, fi, se, re, p3, q3, r3, s3, rfl, hO, hO2, hM, hM4, hV, hW, hE, hE4, hE1⟩ := hG
  refine xM.of (by decide) (Nat.le_of_ble_eq_true rfl) (fun X hX => ?_)
  by_cases h0 : w = 0
  · subst h0
    refine hX.run (ft := ftX10) (ct := ctX10) (oc := []) kX10_count_ok ftX10_ok ctX10_ok xnoc [] [] [] 100 ?_
    refine hX.tabIn (off := 27) (tgt := 28) (kX10_count_ok.at 1 rfl) (by decide) (by decide) (by decide) (by decide) ?_
    refine hX.run (ft := ftX10) (ct := ctX10) (oc := []) kX10_count_ok ftX10_ok ctX10_ok xnoc [] [] [] 100 ?_
    refine hX.callV [1, 2, 3] [] (k_shSize l (nI S.1.1) 60 so ce) yX8_size_ok lkX10_163 ivX8_size slX8_size ⟨rfl, rfl, by decide, by decide⟩ (kX10_count_ok.at 32 rfl) rfl rfl (by decide) rfl rfl rfl ⟨rfl, rfl, rfl, trivial⟩ rfl (fun _ _ q => by rw [q.2]) (fun r9 G1 q => ?_)
    obtain ⟨rfl, rfl⟩ := q
    refine hX.run (ft := ftX10) (ct := ctX10) (oc := []) kX10_count_ok ftX10_ok ctX10_ok xnoc [] [] [] 100 ?_
    rw [← zi_nI]
    exact ⟨rfl, ⟨_, _, _, _, _, _, _, _, _, _, _, _, _, _, _, _, _, _, _, _, _, _, _, _, _, _, _, _, _, _, _, _, _, _, _, _, _, _, _, _, _, rfl, hO, hO2, hM, hM4, hV, hW, hE, hE4, hE1⟩⟩
  by_cases h1 : w = 1
  · subst h1
    refine hX.run (ft := ftX10) (ct := ctX10) (oc := []) kX10_count_ok ftX10_ok ctX10_ok xnoc [] [] [] 100 ?_
    refine hX.tabIn (off := 35) (tgt := 36) (kX10_count_ok.at 1 rfl) (by decide) (by decide) (by decide) (by decide) ?_
    refine hX.run (ft := ftX10) (ct := ctX10) (oc := []) kX10_count_ok ftX10_ok ctX10_ok xnoc [] [] [] 100 ?_
    refine hX.callV [4, 5, 6] [] (k_shSize l (nI S.2.1.1) 40 mso mce) yX8_size_ok lkX10_163 ivX8_size slX8_size ⟨rfl, rfl, by decide, by decide⟩ (kX10_count_ok.at 40 rfl) rfl rfl (by decide) rfl rfl rfl ⟨rfl, rfl, rfl, trivial⟩ rfl (fun _ _ q => by rw [q.2]) (fun r9 G1 q => ?_)
    obtain ⟨rfl, rfl⟩ := q
    refine hX.run (ft := ftX10) (ct := ctX10) (oc := []) kX10_count_ok ftX10_ok ctX10_ok xnoc [] [] [] 100 ?_
    rw [← zi_nI]
    exact ⟨rfl, ⟨_, _, _, _, _, _, _, _, _, _, _, _, _, _, _, _, _, _, _, _, _, _, _, _, _, _, _, _, _, _, _, _, _, _, _, _, _, _, _, _, _, rfl, hO, hO2, hM, hM4, hV, hW, hE, hE4, hE1⟩⟩
  by_cases h2 : w = 2
  · subst h2
    refine hX.run (ft := ftX10) (ct := ctX10) (oc := []) kX10_count_ok ftX10_ok ctX10_ok xnoc [] [] [] 100 ?_
    refine hX.tabIn (off := 43) (tgt := 44) (kX10_count_ok.at 1 rfl) (by decide) (by decide) (by decide) (by decide) ?_
    refine hX.run (ft := ftX10) (ct := ctX10) (oc := []) kX10_count_ok ftX10_ok ctX10_ok xnoc [] [] [] 100 ?_
    refine hX.callV [7, 8] [] (k_lnSize l (nI S.2.2.1.1) 8 rme) yX4_size_ok lkX10_167 ivX4_size slX4_size ⟨rfl, rfl, by decide, by decide⟩ (kX10_count_ok.at 48 rfl) rfl rfl (by decide) rfl rfl rfl ⟨rfl, rfl, trivial⟩ rfl (fun _ _ q => by rw [q.2]) (fun r9 G1 q => ?_)
    obtain ⟨rfl, rfl⟩ := q
    refine hX.run (ft := ftX10) (ct := ctX10) (oc := []) kX10_count_ok ftX10_ok ctX10_ok xnoc [] [] [] 100 ?_
    rw [← zi_nI]
    exact ⟨rfl, ⟨_, _, _, _, _, _, _, _, _, _, _, _, _, _, _, _, _, _, _, _, _, _, _, _, _, _, _, _, _, _, _, _, _, _, _, _, _, _, _, _, _, rfl, hO, hO2, hM, hM4, hV, hW, hE, hE4, hE1⟩⟩
  have n0 : ¬ w.toInt = 0 := fun q => h0 (Int32.toInt_inj.mp q)
  have n1 : ¬ w.toInt = 1 := fun q => h1 (Int32.toInt_inj.mp q)
  have n2 : ¬ w.toInt = 2 := fun q => h2 (Int32.toInt_inj.mp q)
  have e : sp_count S w.toInt = -2 := by unfold sp_count; rw [if_neg n0, if_neg n1, if_neg n2]
  refine hX.run (ft := ftX10) (ct := ctX10) (oc := []) kX10_count_ok ftX10_ok ctX10_ok xnoc [] [] [] 100 ?_
  refine hX.tabOut (tgt := 52) (kX10_count_ok.at 1 rfl) (by omega) (by decide) ?_
  refine hX.run (ft := ftX10) (ct := ctX10) (oc := []) kX10_count_ok ftX10_ok ctX10_ok xnoc [] [] [] 100 ?_
  exact ⟨vI e, ⟨_, _, _, _, _, _, _, _, _, _, _, _, _, _, _, _, _, _, _, _, _, _, _, _, _, _, _, _, _, _, _, _, _, _, _, _, _, _, _, _, _, rfl, hO, hO2, hM, hM4, hV, hW, hE, hE4, hE1⟩⟩
set_option maxHeartbeats 4000000 in
set_option maxRecDepth 100000 in
theorem k_entry (l : Launch) (S : SS) (G0 : List xE) (hG : CInv S G0) (k i : Int32) : xM l yX10_entry cX10_entry 3 (some .int) rX10_entry [.ref 0, .int k, .int i] G0 (fun r9 G => r9 = some (.int (zi (sp_entry S k.toInt i.toInt))) ∧ CInv S G) := by
  obtain ⟨so, ce, mso, mce, rme, sme, n5, mks, q, f0, f1, f2, t0, t1, t2, we, pa, iv, tu, fo, hal, n6, va, le, mi, co, fr, eso, ece, be, af, bo, tr, sx, fi, se, re, p3, q3, r3, s3, rfl, hO, hO2, hM, hM4, hV, hW, hE, hE4, hE1⟩ := hG
  refine xM.of (by decide) (Nat.le_of_ble_eq_true rfl) (fun X hX => ?_)
  by_cases hk : 0 ≤ k.toInt ∧ k.toInt < S.2.1.1
  · obtain ⟨a, rfl, ha, ea⟩ := i32_of (by omega) hk
    have es : sp_entry S (nI a).toInt i.toInt = if 0 ≤ i.toInt ∧ i.toInt ≤ 8 then S.2.1.2 a i.toInt.toNat + 1000 else -2 := by
      unfold sp_entry
      rw [ea, if_pos ⟨by omega, by omega⟩]
      rfl
    refine hX.run (ft := ftX10) (ct := ctX10) (oc := []) kX10_entry_ok ftX10_ok ctX10_ok xnoc [] [] [] 100 ?_
    refine hX.callV [4, 5, 6] [] (k_has l S.2.1.1 40 (by omega) mso mce (nI a)) yX8_has_ok lkX10_135 ivX8_has slX8_has ⟨rfl, rfl, by decide, by decide⟩ (kX10_entry_ok.at 5 rfl) rfl rfl (by decide) rfl rfl rfl ⟨rfl, rfl, rfl, trivial⟩ rfl (fun _ _ q => by rw [q.2]) (fun r9 G1 q => ?_)
    obtain ⟨rfl, rfl⟩ := q
    rw [decide_eq_true hk]
    refine hX.run (ft := ftX10) (ct := ctX10) (oc := []) kX10_entry_ok ftX10_ok ctX10_ok xnoc [] [8] [] 100 ?_
    refine ⟨fun h => ?_, fun h0 => ?_⟩
    · have h1 := i32_lt0.mp h
      exact ⟨vI2 (by rw [es, if_neg (by omega)]), ⟨_, _, _, _, _, _, _, _, _, _, _, _, _, _, _, _, _, _, _, _, _, _, _, _, _, _, _, _, _, _, _, _, _, _, _, _, _, _, _, _, _, rfl, hO, hO2, hM, hM4, hV, hW, hE, hE4, hE1⟩⟩
    refine ⟨fun h => ?_, fun h1 => ?_⟩
    rotate_left
    · have h1 : ¬ i < nI 9 := h1
      rw [i32_ltn (by omega)] at h1
      exact ⟨vI2 (by rw [es, if_neg (by omega)]), ⟨_, _, _, _, _, _, _, _, _, _, _, _, _, _, _, _, _, _, _, _, _, _, _, _, _, _, _, _, _, _, _, _, _, _, _, _, _, _, _, _, _, rfl, hO, hO2, hM, hM4, hV, hW, hE, hE4, hE1⟩⟩
    have h1 : i < nI 9 := h
    rw [i32_ltn (by omega)] at h1
    rw [i32_lt0] at h0
    obtain ⟨j, rfl, hj, ej⟩ := i32_of (k := i) (n := 9) (by omega) ⟨by omega, by omega⟩
    refine hX.callV [4, 5, 6] [] (k_cell l S.2.1.1 40 (by omega) mso mce a j ha (by omega)) yX8_cell_ok lkX10_99 ivX8_cell slX8_cell ⟨rfl, rfl, by decide, by decide⟩ (kX10_entry_ok.at 34 rfl) rfl rfl (by decide) rfl rfl rfl ⟨rfl, rfl, rfl, trivial⟩ rfl (fun _ _ q => by rw [q.2]) (fun r9 G1 q => ?_)
    obtain ⟨rfl, rfl⟩ := q
    have hc : mce (9 * a + j) = zi (S.2.1.2 a j) := (hM.2.2 a j ha hj).1
    rw [hc]
    refine hX.run (ft := ftX10) (ct := ctX10) (oc := []) kX10_entry_ok ftX10_ok ctX10_ok xnoc [] [] [] 100 ?_
    refine ⟨?_, ⟨_, _, _, _, _, _, _, _, _, _, _, _, _, _, _, _, _, _, _, _, _, _, _, _, _, _, _, _, _, _, _, _, _, _, _, _, _, _, _, _, _, rfl, hO, hO2, hM, hM4, hV, hW, hE, hE4, hE1⟩⟩
    rw [es, if_pos ⟨by omega, by omega⟩, ej, Int.toNat_natCast, ← zi_add]
    rfl
  · have e : sp_entry S k.toInt i.toInt = -1 := by unfold sp_entry; rw [if_neg hk]
    refine hX.run (ft := ftX10) (ct := ctX10) (oc := []) kX10_entry_ok ftX10_ok ctX10_ok xnoc [] [] [] 100 ?_
    refine hX.callV [4, 5, 6] [] (k_has l S.2.1.1 40 (by omega) mso mce k) yX8_has_ok lkX10_135 ivX8_has slX8_has ⟨rfl, rfl, by decide, by decide⟩ (kX10_entry_ok.at 5 rfl) rfl rfl (by decide) rfl rfl rfl ⟨rfl, rfl, rfl, trivial⟩ rfl (fun _ _ q => by rw [q.2]) (fun r9 G1 q => ?_)
    obtain ⟨rfl, rfl⟩ := q
    rw [decide_eq_false hk]
    refine hX.run (ft := ftX10) (ct := ctX10) (oc := []) kX10_entry_ok ftX10_ok ctX10_ok xnoc [] [8] [] 100 ?_
    exact ⟨vI e, ⟨_, _, _, _, _, _, _, _, _, _, _, _, _, _, _, _, _, _, _, _, _, _, _, _, _, _, _, _, _, _, _, _, _, _, _, _, _, _, _, _, _, rfl, hO, hO2, hM, hM4, hV, hW, hE, hE4, hE1⟩⟩
set_option maxHeartbeats 4000000 in
set_option maxRecDepth 100000 in
theorem k_element (l : Launch) (S : SS) (G0 : List xE) (hG : CInv S G0) (k i : Int32) : xM l yX10_element cX10_element 4 (some .int) rX10_element [.ref 0, .int k, .int i] G0 (fun r9 G => r9 = some (.int (zi (sp_element S k.toInt i.toInt))) ∧ CInv S G) := by
  obtain ⟨so, ce, mso, mce, rme, sme, n5, mks, q, f0, f1, f2, t0, t1, t2, we, pa, iv, tu, fo, hal, n6, va, le, mi, co, fr, eso, ece, be, af, bo, tr, sx, fi, se, re, p3, q3, r3, s3, rfl, hO, hO2, hM, hM4, hV, hW, hE, hE4, hE1⟩ := hG
  refine xM.of (by decide) (Nat.le_of_ble_eq_true rfl) (fun X hX => ?_)
  by_cases hk : 0 ≤ k.toInt ∧ k.toInt < S.2.2.2.2.1
  · obtain ⟨a, rfl, ha, ea⟩ := i32_of (by omega) hk
    have es : sp_element S (nI a).toInt i.toInt = if 0 ≤ i.toInt ∧ i.toInt ≤ 8 then S.2.2.2.2.2 a i.toInt.toNat + 1000 else -2 := by
      unfold sp_element
      by_cases h : 0 ≤ i.toInt ∧ i.toInt ≤ 8
      · rw [if_pos ⟨hk, h⟩, if_pos h, ea]
        rfl
      · rw [if_neg (fun q => h q.2), if_neg h]
    refine hX.run (ft := ftX10) (ct := ctX10) (oc := []) kX10_element_ok ftX10_ok ctX10_ok xnoc [] [] [] 100 ?_
    refine hX.callV [44, 45, 46] [] (k_has l S.2.2.2.2.1 48 (by omega) eso ece (nI a)) yX8_has_ok lkX10_135 ivX8_has slX8_has ⟨rfl, rfl, by decide, by decide⟩ (kX10_element_ok.at 8 rfl) rfl rfl (by decide) rfl rfl rfl ⟨rfl, rfl, rfl, trivial⟩ rfl (fun _ _ q => by rw [q.2]) (fun r9 G1 q => ?_)
    obtain ⟨rfl, rfl⟩ := q
    rw [decide_eq_true hk]
    refine hX.run (ft := ftX10) (ct := ctX10) (oc := []) kX10_element_ok ftX10_ok ctX10_ok xnoc [] [11, 31] [] 100 ?_
    refine ⟨fun h => ?_, fun h0 => ?_⟩
    · have h1 := i32_lt0.mp h
      exact ⟨vI2 (by rw [es, if_neg (by omega)]), ⟨_, _, _, _, _, _, _, _, _, _, _, _, _, _, _, _, _, _, _, _, _, _, _, _, _, _, _, _, _, _, _, _, _, _, _, _, _, _, _, _, _, rfl, hO, hO2, hM, hM4, hV, hW, hE, hE4, hE1⟩⟩
    refine ⟨fun h1 => ?_, fun h => ?_⟩
    · have h1 : nI 9 ≤ i := h1
      rw [Int32.le_iff_toInt_le, nI_toInt (by omega)] at h1
      exact ⟨vI2 (by rw [es, if_neg (by omega)]), ⟨_, _, _, _, _, _, _, _, _, _, _, _, _, _, _, _, _, _, _, _, _, _, _, _, _, _, _, _, _, _, _, _, _, _, _, _, _, _, _, _, _, rfl, hO, hO2, hM, hM4, hV, hW, hE, hE4, hE1⟩⟩
    have h1 : ¬ nI 9 ≤ i := h
    rw [Int32.le_iff_toInt_le, nI_toInt (by omega)] at h1
    rw [i32_lt0] at h0
    obtain ⟨j, rfl, hj, ej⟩ := i32_of (k := i) (n := 9) (by omega) ⟨by omega, by omega⟩
    refine hX.callV [44, 45, 46] [] (k_cell l S.2.2.2.2.1 48 (by omega) eso ece a j ha (by omega)) yX8_cell_ok lkX10_99 ivX8_cell slX8_cell ⟨rfl, rfl, by decide, by decide⟩ (kX10_element_ok.at 43 rfl) rfl rfl (by decide) rfl rfl rfl ⟨rfl, rfl, rfl, trivial⟩ rfl (fun _ _ q => by rw [q.2]) (fun r9 G1 q => ?_)
    obtain ⟨rfl, rfl⟩ := q
    have hc : ece (9 * a + j) = zi (S.2.2.2.2.2 a j) := (hE.2.2 a j ha hj).1
    rw [hc]
    refine hX.run (ft := ftX10) (ct := ctX10) (oc := []) kX10_element_ok ftX10_ok ctX10_ok xnoc [] [] [] 100 ?_
    refine ⟨?_, ⟨_, _, _, _, _, _, _, _, _, _, _, _, _, _, _, _, _, _, _, _, _, _, _, _, _, _, _, _, _, _, _, _, _, _, _, _, _, _, _, _, _, rfl, hO, hO2, hM, hM4, hV, hW, hE, hE4, hE1⟩⟩
    rw [es, if_pos ⟨by omega, by omega⟩, ej, Int.toNat_natCast, ← zi_add]
    rfl
  · have e : sp_element S k.toInt i.toInt = -2 := by unfold sp_element; rw [if_neg (fun q => hk q.1)]
    refine hX.run (ft := ftX10) (ct := ctX10) (oc := []) kX10_element_ok ftX10_ok ctX10_ok xnoc [] [] [] 100 ?_
    refine hX.callV [44, 45, 46] [] (k_has l S.2.2.2.2.1 48 (by omega) eso ece k) yX8_has_ok lkX10_135 ivX8_has slX8_has ⟨rfl, rfl, by decide, by decide⟩ (kX10_element_ok.at 8 rfl) rfl rfl (by decide) rfl rfl rfl ⟨rfl, rfl, rfl, trivial⟩ rfl (fun _ _ q => by rw [q.2]) (fun r9 G1 q => ?_)
    obtain ⟨rfl, rfl⟩ := q
    rw [decide_eq_false hk]
    refine hX.run (ft := ftX10) (ct := ctX10) (oc := []) kX10_element_ok ftX10_ok ctX10_ok xnoc [] [11, 31] [] 100 ?_
    exact ⟨vI e, ⟨_, _, _, _, _, _, _, _, _, _, _, _, _, _, _, _, _, _, _, _, _, _, _, _, _, _, _, _, _, _, _, _, _, _, _, _, _, _, _, _, _, rfl, hO, hO2, hM, hM4, hV, hW, hE, hE4, hE1⟩⟩
set_option maxHeartbeats 4000000 in
set_option maxRecDepth 100000 in
theorem k_among (l : Launch) (S : SS) (G0 : List xE) (hG : CInv S G0) (k : Int32) : xM l yX10_among cX10_among 3 (some .int) rX10_among [.ref 0, .int k] G0 (fun r9 G => r9 = some (.int (zi (sp_among S k.toInt))) ∧ CInv S G) := by
  obtain ⟨so, ce, mso, mce, rme, sme, n5, mks, q, f0, f1, f2, t0, t1, t2, we, pa, iv, tu, fo, hal, n6, va, le, mi, co, fr, eso, ece, be, af, bo, tr, sx, fi, se, re, p3, q3, r3, s3, rfl, hO, hO2, hM, hM4, hV, hW, hE, hE4, hE1⟩ := hG
  refine xM.of (by decide) (Nat.le_of_ble_eq_true rfl) (fun X hX => ?_)
  by_cases hk : 0 ≤ k.toInt ∧ k.toInt < S.2.1.1
  · obtain ⟨a, rfl, ha, ea⟩ := i32_of (by omega) hk
    have es : sp_among S (nI a).toInt = fndP S.2.2.2.2 (S.2.1.2 a) := by
      unfold sp_among
      rw [if_pos hk, ea]
      rfl
    have ef := fnM S.2.2.2.2 (S.2.1.2 a)
    have hor := fnO_or (toO S.2.2.2.2) 3 9 (S.2.1.2 a)
    have h48 : (toO S.2.2.2.2).1 = S.2.2.2.2.1 := rfl
    refine hX.run (ft := ftX10) (ct := ctX10) (oc := []) kX10_among_ok ftX10_ok ctX10_ok xnoc [] [] [] 100 ?_
    refine hX.callV [4, 5, 6] [] (k_has l S.2.1.1 40 (by omega) mso mce (nI a)) yX8_has_ok lkX10_135 ivX8_has slX8_has ⟨rfl, rfl, by decide, by decide⟩ (kX10_among_ok.at 5 rfl) rfl rfl (by decide) rfl rfl rfl ⟨rfl, rfl, rfl, trivial⟩ rfl (fun _ _ q => by rw [q.2]) (fun r9 G1 q => ?_)
    obtain ⟨rfl, rfl⟩ := q
    rw [decide_eq_true hk]
    refine hX.run (ft := ftX10) (ct := ctX10) (oc := []) kX10_among_ok ftX10_ok ctX10_ok xnoc [] [8] [] 100 ?_
    refine hX.callV [4, 5, 6, 52] [] (k_load l (toO S.2.1) 40 mso mce hM a ha 9 (Nat.le_refl 9) _) yX8_load_ok lkX10_103 ivX8_load slX8_load ⟨rfl, rfl, by decide, by decide⟩ (kX10_among_ok.at 22 rfl) rfl rfl (by decide) rfl rfl rfl ⟨rfl, rfl, rfl, rfl, trivial⟩ rfl (fun _ _ q => by rw [q.2]; rfl) (fun r9 G1 q => ?_)
    obtain ⟨rfl, rfl⟩ := q
    refine hX.run (ft := ftX10) (ct := ctX10) (oc := []) kX10_among_ok ftX10_ok ctX10_ok xnoc [] [] [] 100 ?_
    refine hX.callV [44, 45, 46, 52] [] (k_find l (toO S.2.2.2.2) 48 eso ece hE 3 (by omega) 9 rfl (S.2.1.2 a) (fun i hi => ab_jr (toO_bd hM ha hi) (by decide))) yX8_find_ok lkX10_238 ivX8_find slX8_find ⟨rfl, rfl, by decide, by decide⟩ (kX10_among_ok.at 37 rfl) rfl rfl (by decide) rfl rfl rfl ⟨rfl, rfl, rfl, rfl, trivial⟩ rfl (fun _ _ q => by rw [q.2]) (fun r9 G1 q => ?_)
    obtain ⟨rfl, rfl⟩ := q
    refine hX.run (ft := ftX10) (ct := ctX10) (oc := []) kX10_among_ok ftX10_ok ctX10_ok xnoc [] [] [] 100 ?_
    refine ⟨fun h => ?_, fun h => ?_⟩
    · have h1 : (0 : Int32) ≤ zi (fnO (toO S.2.2.2.2) 3 9 (S.2.1.2 a)) := h
      rw [Int32.le_iff_toInt_le, zi_to (by omega), show (0 : Int32).toInt = 0 from rfl] at h1
      refine ⟨vI ?_, ⟨_, _, _, _, _, _, _, _, _, _, _, _, _, _, _, _, _, _, _, _, _, _, _, _, _, _, _, _, _, _, _, _, _, _, _, _, _, _, _, _, _, rfl, hO, hO2, hM, hM4, hV, hW, hE, hE4, hE1⟩⟩
      rw [es, ef]
      rw [ef] at h1
      unfold fndP
      cases hh : fnd (hitM S.2.2.2.2.2 (S.2.1.2 a)) S.2.2.2.2.1 0 with
      | none => rw [hh] at h1; exact absurd h1 (by decide)
      | some j => rfl
    · have h1 : ¬ (0 : Int32) ≤ zi (fnO (toO S.2.2.2.2) 3 9 (S.2.1.2 a)) := h
      rw [Int32.le_iff_toInt_le, zi_to (by omega), show (0 : Int32).toInt = 0 from rfl] at h1
      have e3 : sp_among S (nI a).toInt = -3 := by
        rw [es]
        rw [ef] at h1
        unfold fndP
        cases hh : fnd (hitM S.2.2.2.2.2 (S.2.1.2 a)) S.2.2.2.2.1 0 with
        | none => rfl
        | some j => rw [hh] at h1; exact absurd (Int.natCast_nonneg j) h1
      exact ⟨vI e3, ⟨_, _, _, _, _, _, _, _, _, _, _, _, _, _, _, _, _, _, _, _, _, _, _, _, _, _, _, _, _, _, _, _, _, _, _, _, _, _, _, _, _, rfl, hO, hO2, hM, hM4, hV, hW, hE, hE4, hE1⟩⟩
  · have e : sp_among S k.toInt = -1 := by unfold sp_among; rw [if_neg hk]
    refine hX.run (ft := ftX10) (ct := ctX10) (oc := []) kX10_among_ok ftX10_ok ctX10_ok xnoc [] [] [] 100 ?_
    refine hX.callV [4, 5, 6] [] (k_has l S.2.1.1 40 (by omega) mso mce k) yX8_has_ok lkX10_135 ivX8_has slX8_has ⟨rfl, rfl, by decide, by decide⟩ (kX10_among_ok.at 5 rfl) rfl rfl (by decide) rfl rfl rfl ⟨rfl, rfl, rfl, trivial⟩ rfl (fun _ _ q => by rw [q.2]) (fun r9 G1 q => ?_)
    obtain ⟨rfl, rfl⟩ := q
    rw [decide_eq_false hk]
    refine hX.run (ft := ftX10) (ct := ctX10) (oc := []) kX10_among_ok ftX10_ok ctX10_ok xnoc [] [8] [] 100 ?_
    exact ⟨vI e, ⟨_, _, _, _, _, _, _, _, _, _, _, _, _, _, _, _, _, _, _, _, _, _, _, _, _, _, _, _, _, _, _, _, _, _, _, _, _, _, _, _, _, rfl, hO, hO2, hM, hM4, hV, hW, hE, hE4, hE1⟩⟩
