def fi3 (u v : Nat → Int) : Nat := if crs u v 0 ≠ 0 then 0 else if crs u v 1 ≠ 0 then 1 else 2
def xrat (A B side : Int) : Int := if B = 0 then (if side = 0 then 1 else 0) else if side = 0 then A.tdiv (Int.gcd A B * (if B < 0 then -1 else 1)) else B.tdiv (Int.gcd A B * (if B < 0 then -1 else 1))
def xrow (p q r s : Nat → Int) (side : Int) : Int := xrat (crs r p (fi3 r s) * crs q s (fi3 r s)) (crs p s (fi3 r s) * crs r q (fi3 r s)) side
def sp_cross (S : SS) (p q r s side : Int) : Int :=
  if srtI S.1 p = 0 ∧ srtI S.1 q = 0 ∧ srtI S.1 r = 0 ∧ srtI S.1 s = 0 ∧ (0 ≤ side ∧ side ≤ 1) ∧ r ≠ s ∧ q ≠ r ∧ q ≠ s ∧ dt9 (S.1.2.2 p.toNat) (S.1.2.2 r.toNat) (S.1.2.2 s.toNat) = 0 ∧ dt9 (S.1.2.2 q.toNat) (S.1.2.2 r.toNat) (S.1.2.2 s.toNat) = 0
  then xrow (S.1.2.2 p.toNat) (S.1.2.2 q.toNat) (S.1.2.2 r.toNat) (S.1.2.2 s.toNat) side else -9223372036854775808
set_option maxHeartbeats 4000000 in
set_option maxRecDepth 100000 in
theorem r_cross (l : Launch) (S : SS) (G0 : List xE) (hG : RInv S G0) (hap : apartO S.1) (p q r s side : Int32) : xM l yX11_cross cX11_cross 14 (some .long) rX11_cross [.ref 0, .int p, .int q, .int r, .int s, .int side] G0 (fun r9 G => r9 = some (.long (zl (sp_cross S p.toInt q.toInt r.toInt s.toInt side.toInt))) ∧ RInv S G) := by
  have hG9 := hG
  obtain ⟨pp, av, be, so, ro, tb, gv, sd, gr, row, table, one, two, rfl, hro, hrt, hrv, hrs, hrg, hr1⟩ := hG
  refine xM.of (by decide) (Nat.le_of_ble_eq_true rfl) (fun X hX => ?_)
  have hoc := xoc1 (oSort_ok hX (by decide) hro) (xoc1 (oPart_ok hX (by decide) hro) (xoc1 (oIn_ok hX (by decide)) (xoc1 (oGcd_ok hX (by decide)) xnoc)))
  have hN := hro.1
  have j0 : jr 0 := ⟨by omega, by omega⟩
  have i0 : ∀ k : Int32, isS S.1 k (nI 0) ↔ srtI S.1 k.toInt = 0 := fun k => isS_iff hro 0 (by omega)
  have bad : ¬ (srtI S.1 p.toInt = 0 ∧ srtI S.1 q.toInt = 0 ∧ srtI S.1 r.toInt = 0 ∧ srtI S.1 s.toInt = 0 ∧ (0 ≤ side.toInt ∧ side.toInt ≤ 1) ∧ r.toInt ≠ s.toInt ∧ q.toInt ≠ r.toInt ∧ q.toInt ≠ s.toInt ∧ dt9 (S.1.2.2 p.toInt.toNat) (S.1.2.2 r.toInt.toNat) (S.1.2.2 s.toInt.toNat) = 0 ∧ dt9 (S.1.2.2 q.toInt.toNat) (S.1.2.2 r.toInt.toNat) (S.1.2.2 s.toInt.toNat) = 0) → some (Value.long (-9223372036854775808)) = some (Value.long (zl (sp_cross S p.toInt q.toInt r.toInt s.toInt side.toInt))) ∧ RInv S (GR (nI S.1.1) (nI S.2.1.1) (nI S.2.2.1.1) (nI S.2.2.2.1.1) (nI S.2.2.2.2.1) pp av be so ro tb gv sd gr row table one two) := by
    intro h
    have e : sp_cross S p.toInt q.toInt r.toInt s.toInt side.toInt = -9223372036854775808 := by unfold sp_cross; rw [if_neg h]
    rw [e]
    exact ⟨rfl, hG9⟩
  have go : srtI S.1 p.toInt = 0 → srtI S.1 q.toInt = 0 → srtI S.1 r.toInt = 0 → srtI S.1 s.toInt = 0 → (0 ≤ side.toInt ∧ side.toInt ≤ 1) → r.toInt ≠ s.toInt → q.toInt ≠ r.toInt → q.toInt ≠ s.toInt → X 77 [some (.ref 0), some (.int p), some (.int q), some (.int r), some (.int s), some (.int side), none, none, none, none, none, none, none, none] [] (GR (nI S.1.1) (nI S.2.1.1) (nI S.2.2.1.1) (nI S.2.2.2.1.1) (nI S.2.2.2.2.1) pp av be so ro tb gv sd gr row table one two) := by
    intro hp hq hr hs hsd n1 n2 n3
    obtain ⟨a, ha, ea, ea0⟩ := srtI_nn (s := 0) hp
    obtain ⟨b, hb, eb, eb0⟩ := srtI_nn (s := 0) hq
    obtain ⟨c, hc, ec, ec0⟩ := srtI_nn (s := 0) hr
    obtain ⟨d, hd, ed, ed0⟩ := srtI_nn (s := 0) hs
    have e1 := nI_of_int ea (by omega)
    have e2 := nI_of_int eb (by omega)
    have e3 := nI_of_int ec (by omega)
    have e4 := nI_of_int ed (by omega)
    subst e1 e2 e3 e4
    have jx : ∀ a1 a2 a3 a4 i, a1 < S.1.1 → a2 < S.1.1 → a3 < S.1.1 → a4 < S.1.1 → jr (crs (S.1.2.2 a1) (S.1.2.2 a2) i * crs (S.1.2.2 a3) (S.1.2.2 a4) i) := fun a1 a2 a3 a4 i k1 k2 k3 k4 => ab_jr (ab_mul (hro.crs k1 k2 i) (hro.crs k3 k4 i)) (by decide)
    have jc : ∀ i, jr (crs (S.1.2.2 c) (S.1.2.2 d) i) := fun i => ab_jr (hro.crs hc hd i) (by decide)
    have hcd := hap c d hc hd (fun e => n1 (by rw [e])) (by omega) (by omega)
    have fin : dt9 (S.1.2.2 a) (S.1.2.2 c) (S.1.2.2 d) = 0 → dt9 (S.1.2.2 b) (S.1.2.2 c) (S.1.2.2 d) = 0 → sp_cross S (nI a).toInt (nI b).toInt (nI c).toInt (nI d).toInt side.toInt = xrow (S.1.2.2 a) (S.1.2.2 b) (S.1.2.2 c) (S.1.2.2 d) side.toInt := by
      intro g1 g2
      unfold sp_cross
      rw [if_pos]
      · rw [ea, eb, ec, ed]; rfl
      · refine ⟨hp, hq, hr, hs, hsd, n1, n2, n3, ?_, ?_⟩
        · rw [ea, ec, ed]; exact g1
        · rw [eb, ec, ed]; exact g2
    have at184 : ∀ A B : Int, jr A → jr B → B ≠ 0 → sp_cross S (nI a).toInt (nI b).toInt (nI c).toInt (nI d).toInt side.toInt = xrat A B side.toInt → X 184 [some (.ref 0), some (.int (nI a)), some (.int (nI b)), some (.int (nI c)), some (.int (nI d)), some (.int side), none, none, some (.long (zl A)), none, some (.long (zl B)), none, none, none] [] (GR (nI S.1.1) (nI S.2.1.1) (nI S.2.2.1.1) (nI S.2.2.2.1.1) (nI S.2.2.2.2.1) pp av be so ro tb gv sd gr row table one two) := by
      intro A B jA jB hB hsp
      have e1 : zl (Int.gcd (zl A).toInt (zl B).toInt) = zl (Int.gcd A B) := by rw [zl_to jA, zl_to jB]
      have hg : (Int.gcd A B : Int) ≠ 0 := by
        intro h
        have h2 : Nat.gcd A.natAbs B.natAbs = 0 := by have : Int.gcd A B = 0 := by omega
                                                      exact this
        have := Nat.eq_zero_of_gcd_eq_zero_right h2
        omega
      have jg : jr (Int.gcd A B) := by
        have h2 : Nat.gcd A.natAbs B.natAbs ≤ B.natAbs := Nat.gcd_le_right _ (by omega)
        have h3 : Int.gcd A B ≤ B.natAbs := h2
        have := jB.1; have := jB.2
        constructor <;> omega
      have fin2 : ∀ t : Int, t = (if B < 0 then -1 else 1) → X 208 [some (.ref 0), some (.int (nI a)), some (.int (nI b)), some (.int (nI c)), some (.int (nI d)), some (.int side), none, none, some (.long (zl A)), none, some (.long (zl B)), none, some (.long (zl (Int.gcd A B * t))), none] [] (GR (nI S.1.1) (nI S.2.1.1) (nI S.2.2.1.1) (nI S.2.2.2.1.1) (nI S.2.2.2.2.1) pp av be so ro tb gv sd gr row table one two) := by
        intro t ht
        have jt : jr (Int.gcd A B * t) := by
          have := jg.1; have := jg.2
          rw [ht]
          split
          · constructor <;> omega
          · constructor <;> omega
        have nt : (Int.gcd A B : Int) * t ≠ 0 := by
          rw [ht]
          split <;> omega
        have nz : ¬ zl (Int.gcd A B * t) = 0 := by
          intro h
          have h1 : zl (Int.gcd A B * t) = zl 0 := h
          rw [zl_eq jt j0] at h1
          exact nt h1
        refine hX.run (oc := [(164, oSort S.1 so), (190, oPart S.1 so ro), (125, oIn), (91, oGcd)]) kX11_cross_ok ftX11_ok ctX11_ok hoc [] [] [] 60 ?_
        refine ⟨fun h => ?_, fun h => ?_⟩
        · have h1 : side.toInt = 0 := by rw [h]; rfl
          refine ⟨nz, ?_⟩
          refine ⟨?_, hG9⟩
          rw [hsp, zl_div jA jt]
          unfold xrat
          rw [if_neg hB, if_pos h1, ht]
        · have h1 : ¬ side.toInt = 0 := fun q => h (i32_0.mpr q)
          refine ⟨nz, ?_⟩
          refine ⟨?_, hG9⟩
          rw [hsp, zl_div jB jt]
          unfold xrat
          rw [if_neg hB, if_neg h1, ht]
      refine hX.run (oc := [(164, oSort S.1 so), (190, oPart S.1 so ro), (125, oIn), (91, oGcd)]) kX11_cross_ok ftX11_ok ctX11_ok hoc [208] [] [] 60 ?_
      refine ⟨by rw [zl_to jA]; exact jA, by rw [zl_to jB]; exact jB, ?_⟩
      refine ⟨fun h => ?_, fun h => ?_⟩
      · have h1 : zl 0 ≤ zl B := lgc_ge.mp h
        rw [zl_le j0 jB] at h1
        have := fin2 1 (by rw [if_neg (by omega)])
        rw [← zl_mul, ← e1] at this
        exact this
      · have h1 : ¬ zl 0 ≤ zl B := fun q => h (lgc_ge.mpr q)
        rw [zl_le j0 jB] at h1
        have := fin2 (-1) (by rw [if_pos (by omega)])
        rw [← zl_mul, ← e1] at this
        exact this
    have at126 : dt9 (S.1.2.2 a) (S.1.2.2 c) (S.1.2.2 d) = 0 → dt9 (S.1.2.2 b) (S.1.2.2 c) (S.1.2.2 d) = 0 → ∀ i, i < 3 → fi3 (S.1.2.2 c) (S.1.2.2 d) = i → X 126 [some (.ref 0), some (.int (nI a)), some (.int (nI b)), some (.int (nI c)), some (.int (nI d)), some (.int side), none, some (.int (nI i)), none, none, none, none, none, none] [] (GR (nI S.1.1) (nI S.2.1.1) (nI S.2.2.1.1) (nI S.2.2.2.1.1) (nI S.2.2.2.2.1) pp av be so ro tb gv sd gr row table one two) := by
      intro g1 g2 i hi hfi
      have hsp := fin g1 g2
      unfold xrow at hsp
      rw [hfi] at hsp
      have jA := jx c a b d i hc ha hb hd
      have jB := jx a d c b i ha hd hc hb
      have main : X 166 [some (.ref 0), some (.int (nI a)), some (.int (nI b)), some (.int (nI c)), some (.int (nI d)), some (.int side), none, some (.int (nI i)), some (.long (zl (crs (S.1.2.2 c) (S.1.2.2 a) i * crs (S.1.2.2 b) (S.1.2.2 d) i))), none, some (.long (zl (crs (S.1.2.2 a) (S.1.2.2 d) i * crs (S.1.2.2 c) (S.1.2.2 b) i))), none, none, none] [] (GR (nI S.1.1) (nI S.2.1.1) (nI S.2.2.1.1) (nI S.2.2.2.1.1) (nI S.2.2.2.2.1) pp av be so ro tb gv sd gr row table one two) := by
        refine hX.run (oc := [(164, oSort S.1 so), (190, oPart S.1 so ro), (125, oIn), (91, oGcd)]) kX11_cross_ok ftX11_ok ctX11_ok hoc [184] [] [] 60 ?_
        refine ⟨fun h => ?_, fun h => ?_⟩
        · have h1 : zl (crs (S.1.2.2 a) (S.1.2.2 d) i * crs (S.1.2.2 c) (S.1.2.2 b) i) = zl 0 := lgc_eq.mp h
          rw [zl_eq jB j0] at h1
          unfold xrat at hsp
          rw [if_pos h1] at hsp
          refine ⟨fun h => ?_, fun h => ?_⟩
          · have h2 : side.toInt = 0 := by rw [h]; rfl
            rw [if_pos h2] at hsp
            rw [hsp]
            exact ⟨rfl, hG9⟩
          · have h2 : ¬ side.toInt = 0 := fun q => h (i32_0.mpr q)
            rw [if_neg h2] at hsp
            rw [hsp]
            exact ⟨rfl, hG9⟩
        · have h1 : ¬ zl (crs (S.1.2.2 a) (S.1.2.2 d) i * crs (S.1.2.2 c) (S.1.2.2 b) i) = zl 0 := fun q => h (lgc_eq.mpr q)
          rw [zl_eq jB j0] at h1
          exact hX.less (at184 _ _ jA jB h1 hsp) ⟨rfl, rfl, rfl, rfl, rfl, rfl, rfl, rfl, trivial⟩
      rw [← zl_mul, ← zl_mul] at main
      rcases (show i = 0 ∨ i = 1 ∨ i = 2 by omega) with rfl | rfl | rfl
      · refine hX.run (oc := [(164, oSort S.1 so), (190, oPart S.1 so ro), (125, oIn), (91, oGcd)]) kX11_cross_ok ftX11_ok ctX11_ok hoc [166] [] [] 60 ?_
        refine ⟨⟨rfl, rfl, rfl⟩, c, a, rfl, rfl, ⟨hc, ha⟩, ?_⟩
        refine ⟨⟨rfl, rfl, rfl⟩, b, d, rfl, rfl, ⟨hb, hd⟩, ?_⟩
        refine ⟨⟨rfl, rfl, rfl⟩, a, d, rfl, rfl, ⟨ha, hd⟩, ?_⟩
        refine ⟨⟨rfl, rfl, rfl⟩, c, b, rfl, rfl, ⟨hc, hb⟩, ?_⟩
        exact main
      · refine hX.run (oc := [(164, oSort S.1 so), (190, oPart S.1 so ro), (125, oIn), (91, oGcd)]) kX11_cross_ok ftX11_ok ctX11_ok hoc [166] [] [] 60 ?_
        refine ⟨⟨rfl, rfl, rfl⟩, c, a, rfl, rfl, ⟨hc, ha⟩, ?_⟩
        refine ⟨⟨rfl, rfl, rfl⟩, b, d, rfl, rfl, ⟨hb, hd⟩, ?_⟩
        refine ⟨⟨rfl, rfl, rfl⟩, a, d, rfl, rfl, ⟨ha, hd⟩, ?_⟩
        refine ⟨⟨rfl, rfl, rfl⟩, c, b, rfl, rfl, ⟨hc, hb⟩, ?_⟩
        exact main
      · refine hX.run (oc := [(164, oSort S.1 so), (190, oPart S.1 so ro), (125, oIn), (91, oGcd)]) kX11_cross_ok ftX11_ok ctX11_ok hoc [166] [] [] 60 ?_
        refine ⟨⟨rfl, rfl, rfl⟩, c, a, rfl, rfl, ⟨hc, ha⟩, ?_⟩
        refine ⟨⟨rfl, rfl, rfl⟩, b, d, rfl, rfl, ⟨hb, hd⟩, ?_⟩
        refine ⟨⟨rfl, rfl, rfl⟩, a, d, rfl, rfl, ⟨ha, hd⟩, ?_⟩
        refine ⟨⟨rfl, rfl, rfl⟩, c, b, rfl, rfl, ⟨hc, hb⟩, ?_⟩
        exact main
    have at103 : dt9 (S.1.2.2 a) (S.1.2.2 c) (S.1.2.2 d) = 0 → dt9 (S.1.2.2 b) (S.1.2.2 c) (S.1.2.2 d) = 0 → X 103 [some (.ref 0), some (.int (nI a)), some (.int (nI b)), some (.int (nI c)), some (.int (nI d)), some (.int side), none, none, none, none, none, none, none, none] [] (GR (nI S.1.1) (nI S.2.1.1) (nI S.2.2.1.1) (nI S.2.2.2.1.1) (nI S.2.2.2.2.1) pp av be so ro tb gv sd gr row table one two) := by
      intro g1 g2
      refine hX.run (oc := [(164, oSort S.1 so), (190, oPart S.1 so ro), (125, oIn), (91, oGcd)]) kX11_cross_ok ftX11_ok ctX11_ok hoc [126] [] [] 90 ?_
      refine ⟨⟨rfl, rfl, rfl⟩, c, d, rfl, rfl, ⟨hc, hd⟩, ?_⟩
      refine ⟨fun h => ?_, fun h => ?_⟩
      · have h0 : zl (crs (S.1.2.2 c) (S.1.2.2 d) 0) = zl 0 := lgc_eq.mp h
        rw [zl_eq (jc 0) j0] at h0
        refine ⟨⟨rfl, rfl, rfl⟩, c, d, rfl, rfl, ⟨hc, hd⟩, ?_⟩
        refine ⟨fun h => ?_, fun h => ?_⟩
        · have h1 : zl (crs (S.1.2.2 c) (S.1.2.2 d) 1) = zl 0 := lgc_eq.mp h
          rw [zl_eq (jc 1) j0] at h1
          refine ⟨⟨rfl, rfl, rfl⟩, c, d, rfl, rfl, ⟨hc, hd⟩, ?_⟩
          refine ⟨fun h => ?_, fun h => ?_⟩
          · have h2 : zl (crs (S.1.2.2 c) (S.1.2.2 d) 2) = zl 0 := lgc_eq.mp h
            rw [zl_eq (jc 2) j0] at h2
            exfalso
            obtain ⟨i, k1, k2⟩ := hcd
            rcases (show i = 0 ∨ i = 1 ∨ i = 2 by omega) with rfl | rfl | rfl
            · exact k2 h0
            · exact k2 h1
            · exact k2 h2
          · exact at126 g1 g2 2 (by omega) (by unfold fi3; rw [if_neg (fun q => q h0), if_neg (fun q => q h1)])
        · have h1 : ¬ zl (crs (S.1.2.2 c) (S.1.2.2 d) 1) = zl 0 := fun q => h (lgc_eq.mpr q)
          rw [zl_eq (jc 1) j0] at h1
          exact at126 g1 g2 1 (by omega) (by unfold fi3; rw [if_neg (fun q => q h0), if_pos h1])
      · have h0 : ¬ zl (crs (S.1.2.2 c) (S.1.2.2 d) 0) = zl 0 := fun q => h (lgc_eq.mpr q)
        rw [zl_eq (jc 0) j0] at h0
        exact at126 g1 g2 0 (by omega) (by unfold fi3; rw [if_pos h0])
    refine hX.run (oc := [(164, oSort S.1 so), (190, oPart S.1 so ro), (125, oIn), (91, oGcd)]) kX11_cross_ok ftX11_ok ctX11_ok hoc [] [] [] 60 ?_
    refine hX.callV0 (rest := []) (c_areInLine l (nI S.2.1.1) (nI S.2.2.1.1) (nI S.2.2.2.1.1) (nI S.2.2.2.2.1) pp av be so ro tb gv sd gr row table one two S.1 hro a c d ha hc hd) yX11_areInLine_ok lkX11_99 ivX11_areInLine slX11_areInLine ⟨rfl, rfl, by decide, by decide⟩ (kX11_cross_ok.at 82 rfl) rfl rfl (by decide) rfl rfl rfl (fun _ _ q => by rw [q.2]) (fun r9 G1 q => ?_)
    obtain ⟨rfl, rfl⟩ := q
    refine hX.run (oc := [(164, oSort S.1 so), (190, oPart S.1 so ro), (125, oIn), (91, oGcd)]) kX11_cross_ok ftX11_ok ctX11_ok hoc [] [] [] 60 ?_
    refine ⟨fun h => ?_, fun h => ?_⟩
    · have h1 : ¬ dt9 (S.1.2.2 a) (S.1.2.2 c) (S.1.2.2 d) = 0 := of_decide_eq_false (bI_0.mp h)
      exact bad (fun q => h1 (by simpa only [ea, ec, ed, Int.toNat_natCast] using q.2.2.2.2.2.2.2.2.1))
    have g1 : dt9 (S.1.2.2 a) (S.1.2.2 c) (S.1.2.2 d) = 0 := by
      apply Classical.byContradiction
      intro q
      exact h (bI_0.mpr (decide_eq_false q))
    refine hX.callV0 (rest := []) (c_areInLine l (nI S.2.1.1) (nI S.2.2.1.1) (nI S.2.2.2.1.1) (nI S.2.2.2.2.1) pp av be so ro tb gv sd gr row table one two S.1 hro b c d hb hc hd) yX11_areInLine_ok lkX11_99 ivX11_areInLine slX11_areInLine ⟨rfl, rfl, by decide, by decide⟩ (kX11_cross_ok.at 93 rfl) rfl rfl (by decide) rfl rfl rfl (fun _ _ q => by rw [q.2]) (fun r9 G1 q => ?_)
    obtain ⟨rfl, rfl⟩ := q
    refine hX.run (oc := [(164, oSort S.1 so), (190, oPart S.1 so ro), (125, oIn), (91, oGcd)]) kX11_cross_ok ftX11_ok ctX11_ok hoc [103] [] [] 60 ?_
    refine ⟨fun h => ?_, fun h => ?_⟩
    · have h1 : ¬ dt9 (S.1.2.2 b) (S.1.2.2 c) (S.1.2.2 d) = 0 := of_decide_eq_false (bI_0.mp h)
      exact bad (fun q => h1 (by simpa only [eb, ec, ed, Int.toNat_natCast] using q.2.2.2.2.2.2.2.2.2))
    have g2 : dt9 (S.1.2.2 b) (S.1.2.2 c) (S.1.2.2 d) = 0 := by
      apply Classical.byContradiction
      intro q
      exact h (bI_0.mpr (decide_eq_false q))
    exact at103 g1 g2
  have is01 : ((0 : Int64) ≤ side.toInt64 ∧ side.toInt64 ≤ 1) ↔ (0 ≤ side.toInt ∧ side.toInt ≤ 1) := by
    have e1 : (0 : Int64) = zl 0 := rfl
    have e2 : (1 : Int64) = zl 1 := rfl
    rw [e1, e2, i64, zl_le j0 (i32_jr side), zl_le (i32_jr side) ⟨by omega, by omega⟩]
  have ne : ∀ {x y : Int32}, x.toInt = y.toInt ↔ x = y := Int32.toInt_inj
  refine hX.run (oc := [(164, oSort S.1 so), (190, oPart S.1 so ro), (125, oIn), (91, oGcd)]) kX11_cross_ok ftX11_ok ctX11_ok hoc [77] [6, 15, 24, 34, 45, 74] [] 90 ?_
  refine ⟨⟨rfl, rfl⟩, fun h1 => ?_, fun h1 => bad (fun q => h1 ((i0 _).mpr q.1))⟩
  refine ⟨⟨rfl, rfl⟩, fun h2 => ?_, fun h2 => bad (fun q => h2 ((i0 _).mpr q.2.1))⟩
  refine ⟨⟨rfl, rfl⟩, fun h3 => ?_, fun h3 => bad (fun q => h3 ((i0 _).mpr q.2.2.1))⟩
  refine ⟨⟨rfl, rfl⟩, fun h4 => ?_, fun h4 => bad (fun q => h4 ((i0 _).mpr q.2.2.2.1))⟩
  refine ⟨fun h5 => ?_, fun h5 => bad (fun q => h5 (is01.mpr q.2.2.2.2.1))⟩
  refine ⟨fun h6 => bad (fun q => q.2.2.2.2.2.1 (by rw [h6])), fun h6 => ?_⟩
  refine ⟨fun h7 => bad (fun q => q.2.2.2.2.2.2.1 (by rw [h7])), fun h7 => ?_⟩
  refine ⟨fun h8 => bad (fun q => q.2.2.2.2.2.2.2.1 (by rw [h8])), fun h8 => ?_⟩
  exact hX.less (go ((i0 _).mp h1) ((i0 _).mp h2) ((i0 _).mp h3) ((i0 _).mp h4) (is01.mp h5) (fun q => h6 (ne.mp q)) (fun q => h7 (ne.mp q)) (fun q => h8 (ne.mp q))) ⟨rfl, rfl, rfl, rfl, rfl, rfl, trivial⟩
