/-! the class's public calls, third part -/
set_option maxHeartbeats 4000000 in
set_option maxRecDepth 100000 in
theorem k_crossRatio (l : Launch) (n1 : Int32) (so ce : Nat → Int32) (n2 : Int32) (mso mce : Nat → Int32) (n3 : Int32) (rme : Nat → Int32) (n4 : Int32) (sme : Nat → Int32) (n5 : Int32) (mks : Nat → Int32) (q : Nat → Nat → Int) (f0 f1 f2 t0 t1 t2 we pa iv tu fo hal : Nat → Int64) (n6 : Int32) (va le mi co fr : Nat → Int64) (n7 : Int32) (eso ece : Nat → Int32) (be af bo sx fi se re : Nat → Int64) (u0 u1 u2 u3 : Nat → Int) (h0 : ∀ i, i < 3 → ab (u0 i) 500) (h1 : ∀ i, i < 3 → ab (u1 i) 500) (h2 : ∀ i, i < 3 → ab (u2 i) 500) (h3 : ∀ i, i < 3 → ab (u3 i) 500) (side : Int32) : xM l yX10_crossRatio cX10_crossRatio 19 (some .long) rX10_crossRatio [.ref 0, .int side] (GC n1 so ce n2 mso mce n3 rme n4 sme n5 mks q f0 f1 f2 t0 t1 t2 we pa iv tu fo hal n6 va le mi co fr n7 eso ece be af bo (fun i => zl (crs u2 u3 i)) sx fi se re (fun i => zl (u0 i)) (fun i => zl (u1 i)) (fun i => zl (u2 i)) (fun i => zl (u3 i))) (fun r G => r = some (.long (zl (xrow u0 u1 u2 u3 side.toInt))) ∧ G = (GC n1 so ce n2 mso mce n3 rme n4 sme n5 mks q f0 f1 f2 t0 t1 t2 we pa iv tu fo hal n6 va le mi co fr n7 eso ece be af bo (fun i => zl (crs u2 u3 i)) sx fi se re (fun i => zl (u0 i)) (fun i => zl (u1 i)) (fun i => zl (u2 i)) (fun i => zl (u3 i)))) := by
  refine xM.of (by decide) (Nat.le_of_ble_eq_true rfl) (fun X hX => ?_)
  have j0 : jr 0 := ⟨by omega, by omega⟩
  have bA : ab (crs u2 u0 (fi3 u2 u3) * crs u1 u3 (fi3 u2 u3)) 250000000000 := ab_le (ab_mul (crs_bd h2 h0 _) (crs_bd h1 h3 _)) (by decide)
  have bB : ab (crs u0 u3 (fi3 u2 u3) * crs u2 u1 (fi3 u2 u3)) 250000000000 := ab_le (ab_mul (crs_bd h0 h3 _) (crs_bd h2 h1 _)) (by decide)
  have jA : jr (crs u2 u0 (fi3 u2 u3) * crs u1 u3 (fi3 u2 u3)) := ab_jr bA (by decide)
  have jB : jr (crs u0 u3 (fi3 u2 u3) * crs u2 u1 (fi3 u2 u3)) := ab_jr bB (by decide)
  have hlt : fi3 u2 u3 < 3 := by unfold fi3; split; omega; split <;> omega
  have es : (xrow u0 u1 u2 u3 side.toInt) = xrat (crs u2 u0 (fi3 u2 u3) * crs u1 u3 (fi3 u2 u3)) (crs u0 u3 (fi3 u2 u3) * crs u2 u1 (fi3 u2 u3)) side.toInt := rfl
  have side0 : side = 0 ↔ side.toInt = 0 := by rw [← Int32.toInt_inj]; rfl
  have st2 : ∀ a b : Int64, a = zl (crs u2 u0 (fi3 u2 u3) * crs u1 u3 (fi3 u2 u3)) → b = zl (crs u0 u3 (fi3 u2 u3) * crs u2 u1 (fi3 u2 u3)) → X 100 [some (.ref 0), some (.int side), some (.int (nI (fi3 u2 u3))), some (.long (zl (crs u1 u3 (fi3 u2 u3)))), none, some (.long (zl (crs u2 u1 (fi3 u2 u3)))), none, some (.long (zl (crs u0 u3 (fi3 u2 u3)))), none, some (.long (zl (crs u2 u0 (fi3 u2 u3)))), none, some (.long a), none, some (.long b), none, none, none, none, none] [] (GC n1 so ce n2 mso mce n3 rme n4 sme n5 mks q f0 f1 f2 t0 t1 t2 we pa iv tu fo hal n6 va le mi co fr n7 eso ece be af bo (fun i => zl (crs u2 u3 i)) sx fi se re (fun i => zl (u0 i)) (fun i => zl (u1 i)) (fun i => zl (u2 i)) (fun i => zl (u3 i))) := by
    rintro _ _ rfl rfl
    have late : ∀ sg : Int, ∀ w : Int64, ¬ (crs u0 u3 (fi3 u2 u3) * crs u2 u1 (fi3 u2 u3)) = 0 → sg = ((Int.gcd (crs u2 u0 (fi3 u2 u3) * crs u1 u3 (fi3 u2 u3)) (crs u0 u3 (fi3 u2 u3) * crs u2 u1 (fi3 u2 u3)) : Nat) : Int) * (if (crs u0 u3 (fi3 u2 u3) * crs u2 u1 (fi3 u2 u3)) < 0 then -1 else 1) → w = zl sg → X 148 [some (.ref 0), some (.int side), some (.int (nI (fi3 u2 u3))), some (.long (zl (crs u1 u3 (fi3 u2 u3)))), none, some (.long (zl (crs u2 u1 (fi3 u2 u3)))), none, some (.long (zl (crs u0 u3 (fi3 u2 u3)))), none, some (.long (zl (crs u2 u0 (fi3 u2 u3)))), none, some (.long (zl (crs u2 u0 (fi3 u2 u3) * crs u1 u3 (fi3 u2 u3)))), none, some (.long (zl (crs u0 u3 (fi3 u2 u3) * crs u2 u1 (fi3 u2 u3)))), none, some (.long (zl ((Int.gcd (crs u2 u0 (fi3 u2 u3) * crs u1 u3 (fi3 u2 u3)) (crs u0 u3 (fi3 u2 u3) * crs u2 u1 (fi3 u2 u3)) : Nat) : Int))), none, none, none] [.long w] (GC n1 so ce n2 mso mce n3 rme n4 sme n5 mks q f0 f1 f2 t0 t1 t2 we pa iv tu fo hal n6 va le mi co fr n7 eso ece be af bo (fun i => zl (crs u2 u3 i)) sx fi se re (fun i => zl (u0 i)) (fun i => zl (u1 i)) (fun i => zl (u2 i)) (fun i => zl (u3 i))) := by
      rintro sg _ hB hsg rfl
      have hg1 : Int.gcd (crs u2 u0 (fi3 u2 u3) * crs u1 u3 (fi3 u2 u3)) (crs u0 u3 (fi3 u2 u3) * crs u2 u1 (fi3 u2 u3)) ≠ 0 := fun q => hB (Int.gcd_eq_zero_iff.mp q).2
      have hg2 : (Int.gcd (crs u2 u0 (fi3 u2 u3) * crs u1 u3 (fi3 u2 u3)) (crs u0 u3 (fi3 u2 u3) * crs u2 u1 (fi3 u2 u3)) : Int) ≤ 250000000000 := by
        have := Int.gcd_le_natAbs_right (a := (crs u2 u0 (fi3 u2 u3) * crs u1 u3 (fi3 u2 u3))) (b := (crs u0 u3 (fi3 u2 u3) * crs u2 u1 (fi3 u2 u3))) (Int.natAbs_pos.mpr hB |> fun h => by omega)
        have h5 := bB.1
        have h6 := bB.2
        omega
      have jsg : jr sg := by
        rw [hsg]
        split <;> exact ⟨by omega, by omega⟩
      have nsg : ¬ zl sg = 0 := by
        intro q
        have q2 : zl sg = zl 0 := q
        rw [zl_eq jsg j0, hsg] at q2
        split at q2 <;> omega
      refine hX.run (ft := ftX10) (ct := ctX10) (oc := []) kX10_crossRatio_ok ftX10_ok ctX10_ok xnoc [] [] [] 100 ?_
      refine ⟨fun h => ?_, fun h => ?_⟩
      · refine ⟨nsg, ?_⟩
        have h7 : side.toInt = 0 := side0.mp h
        refine ⟨?_, rfl⟩
        rw [zl_div jA jsg]
        exact vL (by rw [es]; unfold xrat; rw [if_neg hB, if_pos h7, hsg])
      · refine ⟨nsg, ?_⟩
        have h7 : ¬ side.toInt = 0 := fun q => h (side0.mpr q)
        refine ⟨?_, rfl⟩
        rw [zl_div jB jsg]
        exact vL (by rw [es]; unfold xrat; rw [if_neg hB, if_neg h7, hsg])
    have zero : (crs u0 u3 (fi3 u2 u3) * crs u2 u1 (fi3 u2 u3)) = 0 → X 123 [some (.ref 0), some (.int side), some (.int (nI (fi3 u2 u3))), some (.long (zl (crs u1 u3 (fi3 u2 u3)))), none, some (.long (zl (crs u2 u1 (fi3 u2 u3)))), none, some (.long (zl (crs u0 u3 (fi3 u2 u3)))), none, some (.long (zl (crs u2 u0 (fi3 u2 u3)))), none, some (.long (zl (crs u2 u0 (fi3 u2 u3) * crs u1 u3 (fi3 u2 u3)))), none, some (.long (zl (crs u0 u3 (fi3 u2 u3) * crs u2 u1 (fi3 u2 u3)))), none, some (.long (zl ((Int.gcd (crs u2 u0 (fi3 u2 u3) * crs u1 u3 (fi3 u2 u3)) (crs u0 u3 (fi3 u2 u3) * crs u2 u1 (fi3 u2 u3)) : Nat) : Int))), none, none, none] [] (GC n1 so ce n2 mso mce n3 rme n4 sme n5 mks q f0 f1 f2 t0 t1 t2 we pa iv tu fo hal n6 va le mi co fr n7 eso ece be af bo (fun i => zl (crs u2 u3 i)) sx fi se re (fun i => zl (u0 i)) (fun i => zl (u1 i)) (fun i => zl (u2 i)) (fun i => zl (u3 i))) := by
      intro hB
      refine hX.run (ft := ftX10) (ct := ctX10) (oc := []) kX10_crossRatio_ok ftX10_ok ctX10_ok xnoc [] [] [] 100 ?_
      refine ⟨fun h => ?_, fun h => ?_⟩
      · have h7 : side.toInt = 0 := side0.mp h
        exact ⟨vL (a := 1) (by rw [es]; unfold xrat; rw [if_pos hB, if_pos h7]), rfl⟩
      · have h7 : ¬ side.toInt = 0 := fun q => h (side0.mpr q)
        exact ⟨vL (a := 0) (by rw [es]; unfold xrat; rw [if_pos hB, if_neg h7]), rfl⟩
    refine hX.run (ft := ftX10) (ct := ctX10) (oc := []) kX10_crossRatio_ok ftX10_ok ctX10_ok xnoc [] [] [] 100 ?_
    refine hX.callS [] [] (k_divisor l (crs u2 u0 (fi3 u2 u3) * crs u1 u3 (fi3 u2 u3)) (crs u0 u3 (fi3 u2 u3) * crs u2 u1 (fi3 u2 u3)) jA jB) yX3_divisor_ok lkX10_247 ssX3_divisor ⟨rfl, rfl, by decide, by decide⟩ (kX10_crossRatio_ok.at 104 rfl) rfl rfl (by decide) trivial rfl (fun _ _ q => by rw [q.2]) (fun r9 G1 q => ?_)
    obtain ⟨rfl, rfl⟩ := q
    refine hX.run (ft := ftX10) (ct := ctX10) (oc := []) kX10_crossRatio_ok ftX10_ok ctX10_ok xnoc [123, 148] [] [] 100 ?_
    refine ⟨fun h => ?_, fun h => ?_⟩
    · have h7 : zl (crs u0 u3 (fi3 u2 u3) * crs u2 u1 (fi3 u2 u3)) = zl 0 := lgc_eq.mp h
      rw [zl_eq jB j0] at h7
      exact zero h7
    have hB : ¬ (crs u0 u3 (fi3 u2 u3) * crs u2 u1 (fi3 u2 u3)) = 0 := fun q => h (lgc_eq.mpr (show zl _ = zl 0 by rw [q]))
    have hg1 : Int.gcd (crs u2 u0 (fi3 u2 u3) * crs u1 u3 (fi3 u2 u3)) (crs u0 u3 (fi3 u2 u3) * crs u2 u1 (fi3 u2 u3)) ≠ 0 := fun q => hB (Int.gcd_eq_zero_iff.mp q).2
    have hg2 : (Int.gcd (crs u2 u0 (fi3 u2 u3) * crs u1 u3 (fi3 u2 u3)) (crs u0 u3 (fi3 u2 u3) * crs u2 u1 (fi3 u2 u3)) : Int) ≤ 250000000000 := by
      have := Int.gcd_le_natAbs_right (a := (crs u2 u0 (fi3 u2 u3) * crs u1 u3 (fi3 u2 u3))) (b := (crs u0 u3 (fi3 u2 u3) * crs u2 u1 (fi3 u2 u3))) (Int.natAbs_pos.mpr hB |> fun h => by omega)
      have h5 := bB.1
      have h6 := bB.2
      omega
    have jg : jr ((Int.gcd (crs u2 u0 (fi3 u2 u3) * crs u1 u3 (fi3 u2 u3)) (crs u0 u3 (fi3 u2 u3) * crs u2 u1 (fi3 u2 u3)) : Nat) : Int) := ⟨by omega, by omega⟩
    refine ⟨fun h => ?_, fun h => ?_⟩
    rotate_left
    · refine ⟨fun h => ?_, fun h => ?_⟩
      · have h8 : zl 0 ≤ zl (crs u0 u3 (fi3 u2 u3) * crs u2 u1 (fi3 u2 u3)) := lgc_ge.mp h
        rw [zl_le j0 jB] at h8
        exact late _ _ hB (by rw [if_neg (by omega)]; exact (Int.mul_one _).symm) rfl
      · have h8 : ¬ zl 0 ≤ zl (crs u0 u3 (fi3 u2 u3) * crs u2 u1 (fi3 u2 u3)) := fun q => h (lgc_ge.mpr q)
        rw [zl_le j0 jB] at h8
        exact late (-((Int.gcd (crs u2 u0 (fi3 u2 u3) * crs u1 u3 (fi3 u2 u3)) (crs u0 u3 (fi3 u2 u3) * crs u2 u1 (fi3 u2 u3)) : Nat) : Int)) _ hB (by rw [if_pos (by omega)]; omega) (zl_neg _)
    · have h7 : zl ((Int.gcd (crs u2 u0 (fi3 u2 u3) * crs u1 u3 (fi3 u2 u3)) (crs u0 u3 (fi3 u2 u3) * crs u2 u1 (fi3 u2 u3)) : Nat) : Int) = zl 0 := lgc_eq.mp h
      rw [zl_eq jg j0] at h7
      omega
  have st1 : ∀ i : Nat, i = fi3 u2 u3 → X 31 [some (.ref 0), some (.int side), none, none, none, none, none, none, none, none, none, none, none, none, none, none, none, none, none] [.int (nI i)] (GC n1 so ce n2 mso mce n3 rme n4 sme n5 mks q f0 f1 f2 t0 t1 t2 we pa iv tu fo hal n6 va le mi co fr n7 eso ece be af bo (fun i => zl (crs u2 u3 i)) sx fi se re (fun i => zl (u0 i)) (fun i => zl (u1 i)) (fun i => zl (u2 i)) (fun i => zl (u3 i))) := by
    rintro _ rfl
    refine hX.run (ft := ftX10) (ct := ctX10) (oc := []) kX10_crossRatio_ok ftX10_ok ctX10_ok xnoc [] [] [] 100 ?_
    refine hX.callS [56, 58] [] (k_wedgeCell l u1 u3 (fi3 u2 u3) hlt) yX7_wedgeCell_ok lkX10_243 ssX7_wedgeCell ⟨rfl, rfl, by decide, by decide⟩ (kX10_crossRatio_ok.at 41 rfl) rfl rfl (by decide) ⟨rfl, rfl, trivial⟩ rfl (fun _ _ q => by rw [q.2]) (fun r9 G1 q => ?_)
    obtain ⟨rfl, rfl⟩ := q
    refine hX.run (ft := ftX10) (ct := ctX10) (oc := []) kX10_crossRatio_ok ftX10_ok ctX10_ok xnoc [] [] [] 100 ?_
    refine hX.callS [57, 56] [] (k_wedgeCell l u2 u1 (fi3 u2 u3) hlt) yX7_wedgeCell_ok lkX10_243 ssX7_wedgeCell ⟨rfl, rfl, by decide, by decide⟩ (kX10_crossRatio_ok.at 54 rfl) rfl rfl (by decide) ⟨rfl, rfl, trivial⟩ rfl (fun _ _ q => by rw [q.2]) (fun r9 G1 q => ?_)
    obtain ⟨rfl, rfl⟩ := q
    refine hX.run (ft := ftX10) (ct := ctX10) (oc := []) kX10_crossRatio_ok ftX10_ok ctX10_ok xnoc [] [] [] 100 ?_
    refine hX.callS [55, 58] [] (k_wedgeCell l u0 u3 (fi3 u2 u3) hlt) yX7_wedgeCell_ok lkX10_243 ssX7_wedgeCell ⟨rfl, rfl, by decide, by decide⟩ (kX10_crossRatio_ok.at 68 rfl) rfl rfl (by decide) ⟨rfl, rfl, trivial⟩ rfl (fun _ _ q => by rw [q.2]) (fun r9 G1 q => ?_)
    obtain ⟨rfl, rfl⟩ := q
    refine hX.run (ft := ftX10) (ct := ctX10) (oc := []) kX10_crossRatio_ok ftX10_ok ctX10_ok xnoc [] [] [] 100 ?_
    refine hX.callS [57, 55] [] (k_wedgeCell l u2 u0 (fi3 u2 u3) hlt) yX7_wedgeCell_ok lkX10_243 ssX7_wedgeCell ⟨rfl, rfl, by decide, by decide⟩ (kX10_crossRatio_ok.at 82 rfl) rfl rfl (by decide) ⟨rfl, rfl, trivial⟩ rfl (fun _ _ q => by rw [q.2]) (fun r9 G1 q => ?_)
    obtain ⟨rfl, rfl⟩ := q
    refine hX.run (ft := ftX10) (ct := ctX10) (oc := []) kX10_crossRatio_ok ftX10_ok ctX10_ok xnoc [100] [] [] 100 ?_
    exact st2 _ _ (zl_mul _ _) (zl_mul _ _)
  have jc : ∀ i, jr (crs u2 u3 i) := fun i => ab_jr (crs_bd h2 h3 i) (by decide)
  refine hX.run (ft := ftX10) (ct := ctX10) (oc := []) kX10_crossRatio_ok ftX10_ok ctX10_ok xnoc [31] [] [] 100 ?_
  refine ⟨fun h => ?_, fun h => ?_⟩
  · have h4 : zl (crs u2 u3 0) = zl 0 := lgc_eq.mp h
    rw [zl_eq (jc 0) j0] at h4
    refine ⟨fun h => ?_, fun h => ?_⟩
    · have h5 : zl (crs u2 u3 1) = zl 0 := lgc_eq.mp h
      rw [zl_eq (jc 1) j0] at h5
      exact st1 2 (by unfold fi3; rw [if_neg (fun q => q h4), if_neg (fun q => q h5)])
    · have h5 : ¬ crs u2 u3 1 = 0 := fun q => h (lgc_eq.mpr (show zl _ = zl 0 by rw [q]))
      exact st1 1 (by unfold fi3; rw [if_neg (fun q => q h4), if_pos h5])
  · have h4 : ¬ crs u2 u3 0 = 0 := fun q => h (lgc_eq.mpr (show zl _ = zl 0 by rw [q]))
    exact st1 0 (by unfold fi3; rw [if_pos h4])
set_option maxHeartbeats 4000000 in
set_option maxRecDepth 100000 in
theorem k_cross (l : Launch) (S : SS) (G0 : List xE) (hG : CInv S G0) (p q0 r s side : Int32) : xM l yX10_cross cX10_cross 7 (some .long) rX10_cross [.ref 0, .int p, .int q0, .int r, .int s, .int side] G0 (fun r9 G => r9 = some (.long (zl (sp_cross S p.toInt q0.toInt r.toInt s.toInt side.toInt))) ∧ CInv S G) := by
  obtain ⟨so, ce, mso, mce, rme, sme, n5, mks, q, f0, f1, f2, t0, t1, t2, we, pa, iv, tu, fo, hal, n6, va, le, mi, co, fr, eso, ece, be, af, bo, tr, sx, fi, se, re, p3, q3, r3, s3, rfl, hO, hO2, hM, hM4, hV, hW, hE, hE4, hE1⟩ := hG
  refine xM.of (by decide) (Nat.le_of_ble_eq_true rfl) (fun X hX => ?_)
  have h60 := hO.1
  have j0 : jr 0 := ⟨by omega, by omega⟩
  have s0 : ∀ k : Int32, zi (srtI S.1 k.toInt) = 0 ↔ srtI S.1 k.toInt = 0 := fun k => srt_eq hO2 hO.1 k 0 (by omega)
  have bad1 : ¬ (srtI S.1 p.toInt = 0 ∧ srtI S.1 q0.toInt = 0 ∧ srtI S.1 r.toInt = 0 ∧ srtI S.1 s.toInt = 0) → sp_cross S p.toInt q0.toInt r.toInt s.toInt side.toInt = -9223372036854775808 := by
    intro h
    unfold sp_cross
    rw [if_neg (fun q => h ⟨q.1, q.2.1, q.2.2.1, q.2.2.2.1⟩)]
  have out1 : ¬ (srtI S.1 p.toInt = 0 ∧ srtI S.1 q0.toInt = 0 ∧ srtI S.1 r.toInt = 0 ∧ srtI S.1 s.toInt = 0) → X 49 [some (.ref 0), some (.int p), some (.int q0), some (.int r), some (.int s), some (.int side), none] [] (GC (nI S.1.1) so ce (nI S.2.1.1) mso mce (nI S.2.2.1.1) rme (nI S.2.2.2.1.1) sme n5 mks q f0 f1 f2 t0 t1 t2 we pa iv tu fo hal n6 va le mi co fr (nI S.2.2.2.2.1) eso ece be af bo tr sx fi se re p3 q3 r3 s3) := by
    intro h
    refine hX.run (ft := ftX10) (ct := ctX10) (oc := []) kX10_cross_ok ftX10_ok ctX10_ok xnoc [] [54] [] 100 ?_
    exact ⟨vL (bad1 h), ⟨_, _, _, _, _, _, _, _, _, _, _, _, _, _, _, _, _, _, _, _, _, _, _, _, _, _, _, _, _, _, _, _, _, _, _, _, _, _, _, _, _, rfl, hO, hO2, hM, hM4, hV, hW, hE, hE4, hE1⟩⟩
  have good : (srtI S.1 p.toInt = 0 ∧ srtI S.1 q0.toInt = 0 ∧ srtI S.1 r.toInt = 0 ∧ srtI S.1 s.toInt = 0) → (0 ≤ side.toInt ∧ side.toInt ≤ 1) → ¬ r = s → ¬ q0 = r → ¬ q0 = s → X 89 [some (.ref 0), some (.int p), some (.int q0), some (.int r), some (.int s), some (.int side), some (.int 1)] [] (GC (nI S.1.1) so ce (nI S.2.1.1) mso mce (nI S.2.2.1.1) rme (nI S.2.2.2.1.1) sme n5 mks q f0 f1 f2 t0 t1 t2 we pa iv tu fo hal n6 va le mi co fr (nI S.2.2.2.2.1) eso ece be af bo tr sx fi se re p3 q3 r3 s3) := by
    rintro ⟨c1, c2, c3, c4⟩ hsd nrs nqr nqs
    have en : ∀ x y : Int32, ¬ x = y → x.toInt ≠ y.toInt := fun x y h q => h (Int32.toInt_inj.mp q)
    have n1 := en _ _ nrs
    have n2 := en _ _ nqr
    have n3 := en _ _ nqs
    obtain ⟨a, rfl, ha9, ta, sa⟩ := srt_a hO.1 (k := p) (s := 0) c1
    obtain ⟨b, rfl, hb, tb, sb⟩ := srt_a hO.1 (k := q0) (s := 0) c2
    obtain ⟨c, rfl, hc, tc, sc⟩ := srt_a hO.1 (k := r) (s := 0) c3
    obtain ⟨d, rfl, hd, td, sd⟩ := srt_a hO.1 (k := s) (s := 0) c4
    have ba := fun i hi => bd3 hO ha9 i hi
    have bb := fun i hi => bd3 hO hb i hi
    have bc := fun i hi => bd3 hO hc i hi
    have bd := fun i hi => bd3 hO hd i hi
    have j1 : jr (dt3 (S.1.2.2 a) (crs (S.1.2.2 c) (S.1.2.2 d))) := ab_jr (dt3_bd ba (fun i hi => crs_bd bc bd i)) (by decide)
    have j2 : jr (dt3 (S.1.2.2 b) (crs (S.1.2.2 c) (S.1.2.2 d))) := ab_jr (dt3_bd bb (fun i hi => crs_bd bc bd i)) (by decide)
    have no : ¬ (dt3 (S.1.2.2 a) (crs (S.1.2.2 c) (S.1.2.2 d)) = 0 ∧ dt3 (S.1.2.2 b) (crs (S.1.2.2 c) (S.1.2.2 d)) = 0) → sp_cross S (nI a).toInt (nI b).toInt (nI c).toInt (nI d).toInt side.toInt = -9223372036854775808 := by
      intro h
      unfold sp_cross
      rw [if_neg]
      rw [ta, tb, tc, td]
      simp only [Int.toNat_natCast]
      exact fun q => h ⟨q.2.2.2.2.2.2.2.2.1, q.2.2.2.2.2.2.2.2.2⟩
    refine hX.run (ft := ftX10) (ct := ctX10) (oc := []) kX10_cross_ok ftX10_ok ctX10_ok xnoc [] [] [] 100 ?_
    refine hX.callV [1, 2, 3, 55] [] (k_load l S.1 60 so ce hO a ha9 3 (wd_3 _) _) yX8_load_ok lkX10_103 ivX8_load slX8_load ⟨rfl, rfl, by decide, by decide⟩ (kX10_cross_ok.at 98 rfl) rfl rfl (by decide) rfl rfl rfl ⟨rfl, rfl, rfl, rfl, trivial⟩ rfl (fun _ _ q => by rw [q.2]; rfl) (fun r9 G1 q => ?_)
    obtain ⟨rfl, rfl⟩ := q
    refine hX.run (ft := ftX10) (ct := ctX10) (oc := []) kX10_cross_ok ftX10_ok ctX10_ok xnoc [] [] [] 100 ?_
    refine hX.callV [1, 2, 3, 56] [] (k_load l S.1 60 so ce hO b hb 3 (wd_3 _) _) yX8_load_ok lkX10_103 ivX8_load slX8_load ⟨rfl, rfl, by decide, by decide⟩ (kX10_cross_ok.at 110 rfl) rfl rfl (by decide) rfl rfl rfl ⟨rfl, rfl, rfl, rfl, trivial⟩ rfl (fun _ _ q => by rw [q.2]; rfl) (fun r9 G1 q => ?_)
    obtain ⟨rfl, rfl⟩ := q
    refine hX.run (ft := ftX10) (ct := ctX10) (oc := []) kX10_cross_ok ftX10_ok ctX10_ok xnoc [] [] [] 100 ?_
    refine hX.callV [1, 2, 3, 57] [] (k_load l S.1 60 so ce hO c hc 3 (wd_3 _) _) yX8_load_ok lkX10_103 ivX8_load slX8_load ⟨rfl, rfl, by decide, by decide⟩ (kX10_cross_ok.at 122 rfl) rfl rfl (by decide) rfl rfl rfl ⟨rfl, rfl, rfl, rfl, trivial⟩ rfl (fun _ _ q => by rw [q.2]; rfl) (fun r9 G1 q => ?_)
    obtain ⟨rfl, rfl⟩ := q
    refine hX.run (ft := ftX10) (ct := ctX10) (oc := []) kX10_cross_ok ftX10_ok ctX10_ok xnoc [] [] [] 100 ?_
    refine hX.callV [1, 2, 3, 58] [] (k_load l S.1 60 so ce hO d hd 3 (wd_3 _) _) yX8_load_ok lkX10_103 ivX8_load slX8_load ⟨rfl, rfl, by decide, by decide⟩ (kX10_cross_ok.at 135 rfl) rfl rfl (by decide) rfl rfl rfl ⟨rfl, rfl, rfl, rfl, trivial⟩ rfl (fun _ _ q => by rw [q.2]; rfl) (fun r9 G1 q => ?_)
    obtain ⟨rfl, rfl⟩ := q
    refine hX.run (ft := ftX10) (ct := ctX10) (oc := []) kX10_cross_ok ftX10_ok ctX10_ok xnoc [] [] [] 100 ?_
    refine hX.callS [57, 58, 50] [] (k_wedge l (S.1.2.2 c) (S.1.2.2 d) tr) yX7_wedge_ok lkX10_107 ssX7_wedge ⟨rfl, rfl, by decide, by decide⟩ (kX10_cross_ok.at 150 rfl) rfl rfl (by decide) ⟨rfl, rfl, rfl, trivial⟩ rfl (fun _ _ q => by rw [q.2]; rfl) (fun r9 G1 q => ?_)
    obtain ⟨rfl, rfl⟩ := q
    refine hX.run (ft := ftX10) (ct := ctX10) (oc := []) kX10_cross_ok ftX10_ok ctX10_ok xnoc [] [] [] 100 ?_
    refine hX.callS [55, 50] [] (k_dot l (S.1.2.2 a) (crs (S.1.2.2 c) (S.1.2.2 d))) yX7_dot_ok lkX10_116 ssX7_dot ⟨rfl, rfl, by decide, by decide⟩ (kX10_cross_ok.at 161 rfl) rfl rfl (by decide) ⟨rfl, rfl, trivial⟩ rfl (fun _ _ q => by rw [q.2]) (fun r9 G1 q => ?_)
    obtain ⟨rfl, rfl⟩ := q
    refine hX.run (ft := ftX10) (ct := ctX10) (oc := []) kX10_cross_ok ftX10_ok ctX10_ok xnoc [] [] [] 100 ?_
    refine ⟨fun h => ?_, fun h => ?_⟩
    rotate_left
    · have h1 : ¬ dt3 (S.1.2.2 a) (crs (S.1.2.2 c) (S.1.2.2 d)) = 0 := fun q => h (lgc_eq.mpr (show zl _ = zl 0 by rw [q]))
      exact ⟨vL (no (fun q => h1 q.1)), ⟨_, _, _, _, _, _, _, _, _, _, _, _, _, _, _, _, _, _, _, _, _, _, _, _, _, _, _, _, _, _, _, _, _, _, _, _, _, _, _, _, _, rfl, hO, hO2, hM, hM4, hV, hW, hE, hE4, hE1⟩⟩
    have e1 : zl (dt3 (S.1.2.2 a) (crs (S.1.2.2 c) (S.1.2.2 d))) = zl 0 := lgc_eq.mp h
    rw [zl_eq j1 j0] at e1
    refine hX.callS [56, 50] [] (k_dot l (S.1.2.2 b) (crs (S.1.2.2 c) (S.1.2.2 d))) yX7_dot_ok lkX10_116 ssX7_dot ⟨rfl, rfl, by decide, by decide⟩ (kX10_cross_ok.at 177 rfl) rfl rfl (by decide) ⟨rfl, rfl, trivial⟩ rfl (fun _ _ q => by rw [q.2]) (fun r9 G1 q => ?_)
    obtain ⟨rfl, rfl⟩ := q
    refine hX.run (ft := ftX10) (ct := ctX10) (oc := []) kX10_cross_ok ftX10_ok ctX10_ok xnoc [] [] [] 100 ?_
    refine ⟨fun h => ?_, fun h => ?_⟩
    rotate_left
    · have h1 : ¬ dt3 (S.1.2.2 b) (crs (S.1.2.2 c) (S.1.2.2 d)) = 0 := fun q => h (lgc_eq.mpr (show zl _ = zl 0 by rw [q]))
      exact ⟨vL (no (fun q => h1 q.2)), ⟨_, _, _, _, _, _, _, _, _, _, _, _, _, _, _, _, _, _, _, _, _, _, _, _, _, _, _, _, _, _, _, _, _, _, _, _, _, _, _, _, _, rfl, hO, hO2, hM, hM4, hV, hW, hE, hE4, hE1⟩⟩
    have e2 : zl (dt3 (S.1.2.2 b) (crs (S.1.2.2 c) (S.1.2.2 d))) = zl 0 := lgc_eq.mp h
    rw [zl_eq j2 j0] at e2
    have e : sp_cross S (nI a).toInt (nI b).toInt (nI c).toInt (nI d).toInt side.toInt = xrow (S.1.2.2 a) (S.1.2.2 b) (S.1.2.2 c) (S.1.2.2 d) side.toInt := by
      unfold sp_cross
      rw [if_pos ⟨c1, c2, c3, c4, hsd, n1, n2, n3, by rw [ta, tc, td]; exact e1, by rw [tb, tc, td]; exact e2⟩, ta, tb, tc, td]
      rfl
    refine hX.callV0 (rest := []) (k_crossRatio l (nI S.1.1) so ce (nI S.2.1.1) mso mce (nI S.2.2.1.1) rme (nI S.2.2.2.1.1) sme n5 mks q f0 f1 f2 t0 t1 t2 we pa iv tu fo hal n6 va le mi co fr (nI S.2.2.2.2.1) eso ece be af bo sx fi se re (S.1.2.2 a) (S.1.2.2 b) (S.1.2.2 c) (S.1.2.2 d) ba bb bc bd side) yX10_crossRatio_ok lkX10_131 ivX10_crossRatio slX10_crossRatio ⟨rfl, rfl, by decide, by decide⟩ (kX10_cross_ok.at 192 rfl) rfl rfl (by decide) rfl rfl rfl (fun _ _ q => by rw [q.2]; rfl) (fun r9 G1 q => ?_)
    obtain ⟨rfl, rfl⟩ := q
    refine hX.run (ft := ftX10) (ct := ctX10) (oc := []) kX10_cross_ok ftX10_ok ctX10_ok xnoc [] [] [] 100 ?_
    rw [e]
    exact ⟨rfl, ⟨_, _, _, _, _, _, _, _, _, _, _, _, _, _, _, _, _, _, _, _, _, _, _, _, _, _, _, _, _, _, _, _, _, _, _, _, _, _, _, _, _, rfl, hO, hO2, hM, hM4, hV, hW, hE, hE4, hE1⟩⟩
  have mid : (srtI S.1 p.toInt = 0 ∧ srtI S.1 q0.toInt = 0 ∧ srtI S.1 r.toInt = 0 ∧ srtI S.1 s.toInt = 0) → X 57 [some (.ref 0), some (.int p), some (.int q0), some (.int r), some (.int s), some (.int side), some (.int 1)] [] (GC (nI S.1.1) so ce (nI S.2.1.1) mso mce (nI S.2.2.1.1) rme (nI S.2.2.2.1.1) sme n5 mks q f0 f1 f2 t0 t1 t2 we pa iv tu fo hal n6 va le mi co fr (nI S.2.2.2.2.1) eso ece be af bo tr sx fi se re p3 q3 r3 s3) := by
    intro hall
    have bad : ¬ ((0 ≤ side.toInt ∧ side.toInt ≤ 1) ∧ ¬ r = s ∧ ¬ q0 = r ∧ ¬ q0 = s) → sp_cross S p.toInt q0.toInt r.toInt s.toInt side.toInt = -9223372036854775808 := by
      intro h
      unfold sp_cross
      rw [if_neg]
      rintro ⟨-, -, -, -, q1, q2, q3, q4, -⟩
      exact h ⟨q1, fun q => q2 (by rw [q]), fun q => q3 (by rw [q]), fun q => q4 (by rw [q])⟩
    refine hX.run (ft := ftX10) (ct := ctX10) (oc := []) kX10_cross_ok ftX10_ok ctX10_ok xnoc [89] [] [] 100 ?_
    refine ⟨fun h => ?_, fun h1 => ?_⟩
    · have h1 := i32_lt0.mp h
      exact ⟨vL (bad (fun q => by omega)), ⟨_, _, _, _, _, _, _, _, _, _, _, _, _, _, _, _, _, _, _, _, _, _, _, _, _, _, _, _, _, _, _, _, _, _, _, _, _, _, _, _, _, rfl, hO, hO2, hM, hM4, hV, hW, hE, hE4, hE1⟩⟩
    have h1 : ¬ side.toInt < 0 := fun q => h1 (i32_lt0.mpr q)
    refine ⟨fun h => ?_, fun h2 => ?_⟩
    · have h2 : nI 1 < side := h
      rw [Int32.lt_iff_toInt_lt, nI_toInt (by omega)] at h2
      exact ⟨vL (bad (fun q => by omega)), ⟨_, _, _, _, _, _, _, _, _, _, _, _, _, _, _, _, _, _, _, _, _, _, _, _, _, _, _, _, _, _, _, _, _, _, _, _, _, _, _, _, _, rfl, hO, hO2, hM, hM4, hV, hW, hE, hE4, hE1⟩⟩
    have h2 : ¬ nI 1 < side := h2
    rw [Int32.lt_iff_toInt_lt, nI_toInt (by omega)] at h2
    refine ⟨fun h => ?_, fun h3 => ?_⟩
    · exact ⟨vL (bad (fun q => q.2.1 h)), ⟨_, _, _, _, _, _, _, _, _, _, _, _, _, _, _, _, _, _, _, _, _, _, _, _, _, _, _, _, _, _, _, _, _, _, _, _, _, _, _, _, _, rfl, hO, hO2, hM, hM4, hV, hW, hE, hE4, hE1⟩⟩
    refine ⟨fun h => ?_, fun h4 => ?_⟩
    · exact ⟨vL (bad (fun q => q.2.2.1 h)), ⟨_, _, _, _, _, _, _, _, _, _, _, _, _, _, _, _, _, _, _, _, _, _, _, _, _, _, _, _, _, _, _, _, _, _, _, _, _, _, _, _, _, rfl, hO, hO2, hM, hM4, hV, hW, hE, hE4, hE1⟩⟩
    refine ⟨fun h => ?_, fun h5 => ?_⟩
    · exact ⟨vL (bad (fun q => q.2.2.2 h)), ⟨_, _, _, _, _, _, _, _, _, _, _, _, _, _, _, _, _, _, _, _, _, _, _, _, _, _, _, _, _, _, _, _, _, _, _, _, _, _, _, _, _, rfl, hO, hO2, hM, hM4, hV, hW, hE, hE4, hE1⟩⟩
    exact good hall ⟨by omega, by omega⟩ h3 h4 h5
  refine hX.run (ft := ftX10) (ct := ctX10) (oc := []) kX10_cross_ok ftX10_ok ctX10_ok xnoc [] [] [] 100 ?_
  refine hX.callV [1, 2, 3] [] (k_sortOf l S.1 60 so ce hO p) yX8_sortOf_ok lkX10_95 ivX8_sortOf slX8_sortOf ⟨rfl, rfl, by decide, by decide⟩ (kX10_cross_ok.at 5 rfl) rfl rfl (by decide) rfl rfl rfl ⟨rfl, rfl, rfl, trivial⟩ rfl (fun _ _ q => by rw [q.2]) (fun r9 G1 q => ?_)
  obtain ⟨rfl, rfl⟩ := q
  refine hX.run (ft := ftX10) (ct := ctX10) (oc := []) kX10_cross_ok ftX10_ok ctX10_ok xnoc [49] [] [] 100 ?_
  refine ⟨fun h => ?_, fun h => out1 (fun q => h ((s0 p).mpr q.1))⟩
  have g1 := (s0 p).mp h
  refine hX.callV [1, 2, 3] [] (k_sortOf l S.1 60 so ce hO q0) yX8_sortOf_ok lkX10_95 ivX8_sortOf slX8_sortOf ⟨rfl, rfl, by decide, by decide⟩ (kX10_cross_ok.at 16 rfl) rfl rfl (by decide) rfl rfl rfl ⟨rfl, rfl, rfl, trivial⟩ rfl (fun _ _ q => by rw [q.2]) (fun r9 G1 q => ?_)
  obtain ⟨rfl, rfl⟩ := q
  refine hX.run (ft := ftX10) (ct := ctX10) (oc := []) kX10_cross_ok ftX10_ok ctX10_ok xnoc [49] [] [] 100 ?_
  refine ⟨fun h => ?_, fun h => out1 (fun q => h ((s0 q0).mpr q.2.1))⟩
  have g2 := (s0 q0).mp h
  refine hX.callV [1, 2, 3] [] (k_sortOf l S.1 60 so ce hO r) yX8_sortOf_ok lkX10_95 ivX8_sortOf slX8_sortOf ⟨rfl, rfl, by decide, by decide⟩ (kX10_cross_ok.at 27 rfl) rfl rfl (by decide) rfl rfl rfl ⟨rfl, rfl, rfl, trivial⟩ rfl (fun _ _ q => by rw [q.2]) (fun r9 G1 q => ?_)
  obtain ⟨rfl, rfl⟩ := q
  refine hX.run (ft := ftX10) (ct := ctX10) (oc := []) kX10_cross_ok ftX10_ok ctX10_ok xnoc [49] [] [] 100 ?_
  refine ⟨fun h => ?_, fun h => out1 (fun q => h ((s0 r).mpr q.2.2.1))⟩
  have g3 := (s0 r).mp h
  refine hX.callV [1, 2, 3] [] (k_sortOf l S.1 60 so ce hO s) yX8_sortOf_ok lkX10_95 ivX8_sortOf slX8_sortOf ⟨rfl, rfl, by decide, by decide⟩ (kX10_cross_ok.at 39 rfl) rfl rfl (by decide) rfl rfl rfl ⟨rfl, rfl, rfl, trivial⟩ rfl (fun _ _ q => by rw [q.2]) (fun r9 G1 q => ?_)
  obtain ⟨rfl, rfl⟩ := q
  refine hX.run (ft := ftX10) (ct := ctX10) (oc := []) kX10_cross_ok ftX10_ok ctX10_ok xnoc [49, 57] [54] [] 100 ?_
  refine ⟨fun h => ?_, fun h => out1 (fun q => h ((s0 s).mpr q.2.2.2))⟩
  have g4 := (s0 s).mp h
  exact mid ⟨g1, g2, g3, g4⟩
set_option maxHeartbeats 4000000 in
set_option maxRecDepth 100000 in
theorem k_order (l : Launch) (S : SS) (G0 : List xE) (hG : CInv S G0) (hgood : goodM S.2.1) (m k : Int32) : xM l yX10_order cX10_order 4 (some .int) rX10_order [.ref 0, .int m, .int k] G0 (fun r9 G => r9 = some (.int (zi (sp_order S m.toInt k.toInt))) ∧ CInv S G) := by
  obtain ⟨so, ce, mso, mce, rme, sme, n5, mks, q, f0, f1, f2, t0, t1, t2, we, pa, iv, tu, fo, hal, n6, va, le, mi, co, fr, eso, ece, be, af, bo, tr, sx, fi, se, re, p3, q3, r3, s3, rfl, hO, hO2, hM, hM4, hV, hW, hE, hE4, hE1⟩ := hG
  refine xM.of (by decide) (Nat.le_of_ble_eq_true rfl) (fun X hX => ?_)
  have hoc := xoc1 (oCopy_ok hX (idx := 225) cpX10_225 (by decide)) xnoc
  by_cases hm : 0 ≤ m.toInt ∧ m.toInt < S.2.1.1
  rotate_left
  · have e : sp_order S m.toInt k.toInt = -1 := by unfold sp_order; rw [if_neg hm]
    refine hX.run (ft := ftX10) (ct := ctX10) (oc := [(451, oCopy)]) kX10_order_ok ftX10_ok ctX10_ok hoc [] [] [] 100 ?_
    refine hX.callV [4, 5, 6] [] (k_has l S.2.1.1 40 (by omega) mso mce m) yX8_has_ok lkX10_135 ivX8_has slX8_has ⟨rfl, rfl, by decide, by decide⟩ (kX10_order_ok.at 5 rfl) rfl rfl (by decide) rfl rfl rfl ⟨rfl, rfl, rfl, trivial⟩ rfl (fun _ _ q => by rw [q.2]) (fun r9 G1 q => ?_)
    obtain ⟨rfl, rfl⟩ := q
    rw [decide_eq_false hm]
    refine hX.run (ft := ftX10) (ct := ctX10) (oc := [(451, oCopy)]) kX10_order_ok ftX10_ok ctX10_ok hoc [] [8] [] 100 ?_
    exact ⟨vI e, ⟨_, _, _, _, _, _, _, _, _, _, _, _, _, _, _, _, _, _, _, _, _, _, _, _, _, _, _, _, _, _, _, _, _, _, _, _, _, _, _, _, _, rfl, hO, hO2, hM, hM4, hV, hW, hE, hE4, hE1⟩⟩
  obtain ⟨a, rfl, ha9, ea⟩ := i32_of (by omega) hm
  have hx : ∀ i, i < 9 → ab ((S.2.1.2 a) i) 500 := fun i hi => toO_bd hM ha9 hi
  refine hX.run (ft := ftX10) (ct := ctX10) (oc := [(451, oCopy)]) kX10_order_ok ftX10_ok ctX10_ok hoc [] [] [] 100 ?_
  refine hX.callV [4, 5, 6] [] (k_has l S.2.1.1 40 (by omega) mso mce (nI a)) yX8_has_ok lkX10_135 ivX8_has slX8_has ⟨rfl, rfl, by decide, by decide⟩ (kX10_order_ok.at 5 rfl) rfl rfl (by decide) rfl rfl rfl ⟨rfl, rfl, rfl, trivial⟩ rfl (fun _ _ q => by rw [q.2]) (fun r9 G1 q => ?_)
  obtain ⟨rfl, rfl⟩ := q
  rw [decide_eq_true hm]
  refine hX.run (ft := ftX10) (ct := ctX10) (oc := [(451, oCopy)]) kX10_order_ok ftX10_ok ctX10_ok hoc [27] [8] [] 100 ?_
  refine ⟨fun h => ?_, fun h1 => ?_⟩
  · have h1 : k < nI 1 := h
    rw [i32_ltn (by omega)] at h1
    have e : sp_order S (nI a).toInt k.toInt = -2 := by unfold sp_order; rw [if_pos hm, if_neg (by omega)]
    exact ⟨vI e, ⟨_, _, _, _, _, _, _, _, _, _, _, _, _, _, _, _, _, _, _, _, _, _, _, _, _, _, _, _, _, _, _, _, _, _, _, _, _, _, _, _, _, rfl, hO, hO2, hM, hM4, hV, hW, hE, hE4, hE1⟩⟩
  have h1 : ¬ k < nI 1 := h1
  rw [i32_ltn (by omega)] at h1
  refine ⟨fun h => ?_, fun h2 => ?_⟩
  rotate_left
  · have h2 : ¬ k ≤ nI 60 := h2
    rw [Int32.le_iff_toInt_le, nI_toInt (by omega)] at h2
    have e : sp_order S (nI a).toInt k.toInt = -2 := by unfold sp_order; rw [if_pos hm, if_neg (by omega)]
    exact ⟨vI e, ⟨_, _, _, _, _, _, _, _, _, _, _, _, _, _, _, _, _, _, _, _, _, _, _, _, _, _, _, _, _, _, _, _, _, _, _, _, _, _, _, _, _, rfl, hO, hO2, hM, hM4, hV, hW, hE, hE4, hE1⟩⟩
  have h2 : k ≤ nI 60 := h
  rw [Int32.le_iff_toInt_le, nI_toInt (by omega)] at h2
  obtain ⟨mo, rfl, hmo⟩ : ∃ mo : Nat, k = nI mo ∧ k.toInt = mo := ⟨k.toInt.toNat, nI_of_int (by omega) (by omega), by omega⟩
  have esp : sp_order S (nI a).toInt (nI mo).toInt = (ordv (S.2.1.2 a) mo 1 (S.2.1.2 a) : Int) := by
    unfold sp_order
    rw [if_pos hm, if_pos ⟨by omega, by omega⟩, ea, hmo]; rfl
  have fin : ∀ (k : Nat) (se re : Nat → Int64), ordv (S.2.1.2 a) mo 1 (S.2.1.2 a) = k → some (Value.int (nI k)) = some (.int (zi (sp_order S (nI a).toInt (nI mo).toInt))) ∧ CInv S (GC (nI S.1.1) so ce (nI S.2.1.1) mso mce (nI S.2.2.1.1) rme (nI S.2.2.2.1.1) sme n5 mks q f0 f1 f2 t0 t1 t2 we pa iv tu fo hal n6 va le mi co fr (nI S.2.2.2.2.1) eso ece be af bo tr sx (fun i => zl ((S.2.1.2 a) i)) se re p3 q3 r3 s3) := by
    intro k se re h
    rw [esp, h, zi_nI]
    exact ⟨rfl, ⟨_, _, _, _, _, _, _, _, _, _, _, _, _, _, _, _, _, _, _, _, _, _, _, _, _, _, _, _, _, _, _, _, _, _, _, _, _, _, _, _, _, rfl, hO, hO2, hM, hM4, hV, hW, hE, hE4, hE1⟩⟩
  have main : ∀ (d k : Nat) (t : Nat → Int) (re : Nat → Int64), d + k = mo + 1 → (∀ i, i < 9 → ab (t i) 500) → det9 t ≠ 0 → ordv (S.2.1.2 a) mo 1 (S.2.1.2 a) = ordv (S.2.1.2 a) d k t → X 53 [some (.ref 0), some (.int (nI a)), some (.int (nI mo)), some (.int (nI k))] [] (GC (nI S.1.1) so ce (nI S.2.1.1) mso mce (nI S.2.2.1.1) rme (nI S.2.2.2.1.1) sme n5 mks q f0 f1 f2 t0 t1 t2 we pa iv tu fo hal n6 va le mi co fr (nI S.2.2.2.2.1) eso ece be af bo tr sx (fun i => zl ((S.2.1.2 a) i)) (fun i => zl (t i)) re p3 q3 r3 s3) := by
    intro d
    induction d with
    | zero =>
      intro k t re hk ht hd hv
      refine hX.run (ft := ftX10) (ct := ctX10) (oc := [(451, oCopy)]) kX10_order_ok ftX10_ok ctX10_ok hoc [] [] [] 100 ?_
      refine ⟨fun _ => fin 0 _ _ hv, fun h => absurd (nI_lt (by omega) (by omega)) h⟩
    | succ d ih =>
      intro k t re hk ht hd hv
      have hd2 : det9 (mul9 (S.2.1.2 a) t) ≠ 0 := by
        rw [tdet]
        exact Int.mul_ne_zero (hgood a ha9) hd
      refine hX.run (ft := ftX10) (ct := ctX10) (oc := [(451, oCopy)]) kX10_order_ok ftX10_ok ctX10_ok hoc [] [] [] 100 ?_
      refine ⟨fun h => absurd h (nI_nlt (by omega) (by omega)), fun _ => ?_⟩
      refine hX.callS [53] [] (k_allStays l t ht) yX2_allStays_ok lkX10_214 ssX2_allStays ⟨rfl, rfl, by decide, by decide⟩ (kX10_order_ok.at 62 rfl) rfl rfl (by decide) ⟨rfl, trivial⟩ rfl (fun _ _ q => by rw [q.2]) (fun r9 G1 q => ?_)
      obtain ⟨rfl, rfl⟩ := q
      refine hX.run (ft := ftX10) (ct := ctX10) (oc := [(451, oCopy)]) kX10_order_ok ftX10_ok ctX10_ok hoc [] [] [] 100 ?_
      refine ⟨fun h => ?_, fun h => ?_⟩
      rotate_left
      · have hc : all9 t := of_decide_eq_true (bI_t h)
        exact fin k _ _ (by rw [hv, ordv, if_pos hc])
      have hc : ¬ all9 t := of_decide_eq_false (bI_0.mp h)
      refine hX.callS [52, 53, 54] [] (k_product l (S.2.1.2 a) t re) yX9_product_ok lkX10_168 ssX9_product ⟨rfl, rfl, by decide, by decide⟩ (kX10_order_ok.at 82 rfl) rfl rfl (by decide) ⟨rfl, rfl, rfl, trivial⟩ rfl (fun _ _ q => by rw [q.2]; rfl) (fun r9 G1 q => ?_)
      obtain ⟨rfl, rfl⟩ := q
      refine hX.run (ft := ftX10) (ct := ctX10) (oc := [(451, oCopy)]) kX10_order_ok ftX10_ok ctX10_ok hoc [] [] [] 100 ?_
      refine hX.callS [54] [] (k_reduce l 9 (by omega) 500 (by exact ⟨by omega, by omega⟩) (mul9 (S.2.1.2 a) t) (fun i hi => ab_jr (mul9_bd hx ht i hi) (by decide)) (det_ne hd2)) yX3_reduce_ok lkX10_219 ssX3_reduce ⟨rfl, rfl, by decide, by decide⟩ (kX10_order_ok.at 92 rfl) rfl rfl (by decide) ⟨rfl, trivial⟩ rfl (fun _ _ q => by rw [q.2]; rfl) (fun r9 G1 q => ?_)
      obtain ⟨rfl, rfl⟩ := q
      rw [fitM_5]
      refine hX.run (ft := ftX10) (ct := ctX10) (oc := [(451, oCopy)]) kX10_order_ok ftX10_ok ctX10_ok hoc [53, 115] [] [] 100 ?_
      refine ⟨fun h => ?_, fun h => ?_⟩
      · have hf : fit (mul9 (S.2.1.2 a) t) 9 9 = false := bI_0.mp h
        exact fin 0 _ _ (by rw [hv, ordv, if_neg hc, if_neg (by rw [hf]; decide)])
      have hf : fit (mul9 (S.2.1.2 a) t) 9 9 = true := bI_t h
      have := ih (k + 1) (lrow (mul9 (S.2.1.2 a) t) 9) (fun i => zl (lst (mul9 (S.2.1.2 a) t) 9 i)) (by omega) (lrow_bd hf) (lrow_det hd2) (by rw [hv, ordv, if_neg hc, if_pos hf])
      rw [← nI_1 k] at this
      refine hX.alikeL 53 (n := 9) (fun i => zl (lrow (mul9 (S.2.1.2 a) t) 9 i)) rfl (fun i hi => ?_) ?_
      · rw [lrow_lt hi]
        rcases (show i = 0 ∨ i = 1 ∨ i = 2 ∨ i = 3 ∨ i = 4 ∨ i = 5 ∨ i = 6 ∨ i = 7 ∨ i = 8 by omega) with rfl | rfl | rfl | rfl | rfl | rfl | rfl | rfl | rfl <;> rfl
      refine hX.run (ft := ftX10) (ct := ctX10) (oc := [(451, oCopy)]) kX10_order_ok ftX10_ok ctX10_ok hoc [53] [] [] 100 ?_
      exact this
  refine hX.run (ft := ftX10) (ct := ctX10) (oc := [(451, oCopy)]) kX10_order_ok ftX10_ok ctX10_ok hoc [] [] [] 100 ?_
  refine hX.callV [4, 5, 6, 52] [] (k_load l (toO S.2.1) 40 mso mce hM a ha9 9 (Nat.le_refl 9) _) yX8_load_ok lkX10_103 ivX8_load slX8_load ⟨rfl, rfl, by decide, by decide⟩ (kX10_order_ok.at 36 rfl) rfl rfl (by decide) rfl rfl rfl ⟨rfl, rfl, rfl, rfl, trivial⟩ rfl (fun _ _ q => by rw [q.2]; rfl) (fun r9 G1 q => ?_)
  obtain ⟨rfl, rfl⟩ := q
  refine hX.run (ft := ftX10) (ct := ctX10) (oc := [(451, oCopy)]) kX10_order_ok ftX10_ok ctX10_ok hoc [] [] [] 100 ?_
  refine hX.callV [4, 5, 6, 53] [] (k_load l (toO S.2.1) 40 mso mce hM a ha9 9 (Nat.le_refl 9) _) yX8_load_ok lkX10_103 ivX8_load slX8_load ⟨rfl, rfl, by decide, by decide⟩ (kX10_order_ok.at 48 rfl) rfl rfl (by decide) rfl rfl rfl ⟨rfl, rfl, rfl, rfl, trivial⟩ rfl (fun _ _ q => by rw [q.2]; rfl) (fun r9 G1 q => ?_)
  obtain ⟨rfl, rfl⟩ := q
  refine hX.run (ft := ftX10) (ct := ctX10) (oc := [(451, oCopy)]) kX10_order_ok ftX10_ok ctX10_ok hoc [53] [] [] 100 ?_
  exact main mo 1 (S.2.1.2 a) re (by omega) hx (hgood a ha9) rfl
theorem gr1_le (M : SM) (sv : Nat → Nat) (mo k : Nat) : ∀ (d s : Nat) (P : SM), P.1 ≤ mo → (gr1 M sv mo k d s P).2.1 ≤ mo
  | 0, s, P, h => h
  | d + 1, s, P, h => by
    unfold gr1
    split
    · split
      · exact gr1_le M sv mo k d (s + 1) P h
      · split
        · exact h
        · exact gr1_le M sv mo k d (s + 1) _ (by show P.1 + 1 ≤ mo; omega)
    · exact h
theorem gr2_le (M : SM) (sv : Nat → Nat) (mo ns : Nat) : ∀ (f k : Nat) (P : SM), P.1 ≤ mo → (gr2 M sv mo ns f k P).2.1 ≤ mo
  | 0, k, P, h => h
  | f + 1, k, P, h => by
    have h1 := gr1_le M sv mo k ns 0 P h
    unfold gr2
    split
    · split
      · next r P' q => rw [q] at h1; exact h1
      · next P' q => rw [q] at h1; exact gr2_le M sv mo ns f (k + 1) P' h1
    · exact h
set_option maxHeartbeats 4000000 in
set_option maxRecDepth 100000 in
theorem k_group (l : Launch) (S : SS) (G0 : List xE) (hG : CInv S G0) (hgood : goodM S.2.1) (hid : ∀ i, i < 9 → S.2.2.2.2.2 0 i = id9 i) (k : Int32) : xM l yX10_group cX10_group 3 (some .int) rX10_group [.ref 0, .int k] G0 (fun r9 G => r9 = some (.int (zi (sp_group S k.toInt).1)) ∧ CInv (sp_group S k.toInt).2 G) := by
  obtain ⟨so, ce, mso, mce, rme, sme, n5, mks, q, f0, f1, f2, t0, t1, t2, we, pa, iv, tu, fo, hal, n6, va, le, mi, co, fr, eso, ece, be, af, bo, tr, sx, fi, se, re, p3, q3, r3, s3, rfl, hO, hO2, hM, hM4, hV, hW, hE, hE4, hE1⟩ := hG
  refine xM.of (by decide) (Nat.le_of_ble_eq_true rfl) (fun X hX => ?_)
  refine hX.run (ft := ftX10) (ct := ctX10) (oc := []) kX10_group_ok ftX10_ok ctX10_ok xnoc [] [] [] 100 ?_
  refine ⟨fun h => ?_, fun h1 => ?_⟩
  · have h1 : k < nI 1 := h
    rw [i32_ltn (by omega)] at h1
    have e : sp_group S k.toInt = (-2, S) := by unfold sp_group; rw [if_neg (by omega)]
    rw [e]
    exact ⟨rfl, ⟨_, _, _, _, _, _, _, _, _, _, _, _, _, _, _, _, _, _, _, _, _, _, _, _, _, _, _, _, _, _, _, _, _, _, _, _, _, _, _, _, _, rfl, hO, hO2, hM, hM4, hV, hW, hE, hE4, hE1⟩⟩
  have h1 : ¬ k < nI 1 := h1
  rw [i32_ltn (by omega)] at h1
  refine ⟨fun h => ?_, fun h2 => ?_⟩
  rotate_left
  · have h2 : ¬ k ≤ nI 48 := h2
    rw [Int32.le_iff_toInt_le, nI_toInt (by omega)] at h2
    have e : sp_group S k.toInt = (-2, S) := by unfold sp_group; rw [if_neg (by omega)]
    rw [e]
    exact ⟨rfl, ⟨_, _, _, _, _, _, _, _, _, _, _, _, _, _, _, _, _, _, _, _, _, _, _, _, _, _, _, _, _, _, _, _, _, _, _, _, _, _, _, _, _, rfl, hO, hO2, hM, hM4, hV, hW, hE, hE4, hE1⟩⟩
  have h2 : k ≤ nI 48 := h
  rw [Int32.le_iff_toInt_le, nI_toInt (by omega)] at h2
  obtain ⟨mo, rfl, hmo⟩ : ∃ mo : Nat, k = nI mo ∧ k.toInt = mo := ⟨k.toInt.toNat, nI_of_int (by omega) (by omega), by omega⟩
  have e : sp_group S (nI mo).toInt = ((gr2 S.2.1 S.2.2.2.1.2 mo S.2.2.2.1.1 49 0 (1, S.2.2.2.2.2)).1, (S.1, S.2.1, S.2.2.1, (0, S.2.2.2.1.2), (gr2 S.2.1 S.2.2.2.1.2 mo S.2.2.2.1.1 49 0 (1, S.2.2.2.2.2)).2)) := by
    unfold sp_group
    rw [if_pos ⟨by omega, by omega⟩, hmo]
    rfl
  refine hX.callV [43, 44, 45, 46, 47, 48, 49, 4, 5, 6, 9, 10] [] (k_grow l (nI S.2.2.2.2.1) eso ece mso mce sme be af bo S.2.2.2.2.2 hid S.2.1 hM hgood S.2.2.2.1 hW mo ⟨by omega, by omega⟩) yX0_grow_ok lkX10_231 ivX0_grow slX0_grow ⟨rfl, rfl, by decide, by decide⟩ (kX10_group_ok.at 27 rfl) rfl rfl (by decide) rfl rfl rfl ⟨rfl, rfl, rfl, rfl, rfl, rfl, rfl, rfl, rfl, rfl, rfl, rfl, trivial⟩ rfl (fun _ _ q => by obtain ⟨_, _, _, _, _, -, -, -, rfl⟩ := q; rfl) (fun r9 G1 q => ?_)
  obtain ⟨so2, ce2, be2, af2, bo2, rfl, q2, q3, rfl⟩ := q
  have hle := gr2_le S.2.1 S.2.2.2.1.2 mo S.2.2.2.1.1 49 0 (1, S.2.2.2.2.2) (by show 1 ≤ mo; omega)
  refine hX.run (ft := ftX10) (ct := ctX10) (oc := []) kX10_group_ok ftX10_ok ctX10_ok xnoc [] [] [] 100 ?_
  refine hX.callV [9, 10] [] (k_lnClear l (nI S.2.2.2.1.1) 4 sme) yX4_clear_ok lkX10_152 ivX4_clear slX4_clear ⟨rfl, rfl, by decide, by decide⟩ (kX10_group_ok.at 35 rfl) rfl rfl (by decide) rfl rfl rfl ⟨rfl, rfl, trivial⟩ rfl (fun _ _ q => by rw [q.2]; rfl) (fun r9 G1 q => ?_)
  obtain ⟨rfl, rfl⟩ := q
  refine hX.run (ft := ftX10) (ct := ctX10) (oc := []) kX10_group_ok ftX10_ok ctX10_ok xnoc [] [] [] 100 ?_
  rw [e]
  exact ⟨rfl, ⟨_, _, _, _, _, _, _, _, _, _, _, _, _, _, _, _, _, _, _, _, _, _, _, _, _, _, _, _, _, _, _, _, _, _, _, _, _, _, _, _, _, rfl, hO, hO2, hM, hM4, hV, ⟨Nat.zero_le 4, fun j hj => absurd hj (Nat.not_lt_zero j)⟩, q2, Nat.le_trans hle (by omega), q3⟩⟩
