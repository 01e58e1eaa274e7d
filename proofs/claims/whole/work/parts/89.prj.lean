/-! projective by points -/
theorem prp2_lst {a b c d : Int} (h : a * d = b * c) (h0 : a ≠ 0) (h1 : c ≠ 0) : ∀ i, i < 2 → lst (v2 a b) 2 i = lst (v2 c d) 2 i := by
  refine prp_lst (gN_ne (i := 0) (by omega) h0) (gN_ne (i := 0) (by omega) h1) (fun i j hi hj => ?_)
  rcases (show i = 0 ∨ i = 1 by omega) with rfl | rfl <;> rcases (show j = 0 ∨ j = 1 by omega) with rfl | rfl <;> simp only [v2] <;> simp <;> grind
theorem lst_prp {z : Nat → Int} {n i j : Nat} (hi : i < n) (hj : j < n) : z i * lst z n j = z j * lst z n i := by
  have h1 := lst_mul (z := z) (n := n) hi
  have h2 := lst_mul (z := z) (n := n) hj
  generalize ((gN z n : Nat) : Int) * sN z n = G at *
  generalize lst z n i = a at *
  generalize lst z n j = b at *
  grind
/-- the class's weights go with to / from -/
theorem wt3_rel {q F H : Nat → Nat → Int} (f0 : frW q F 0 ≠ 0) (f1 : frW q F 1 ≠ 0) (f2 : frW q F 2 ≠ 0) (t0 : toW q H 0 ≠ 0) (t1 : toW q H 1 ≠ 0) (t2 : toW q H 2 ≠ 0) : wt3 q F H 0 * frW q F 0 * toW q H 1 = wt3 q F H 1 * frW q F 1 * toW q H 0 ∧ wt3 q F H 1 * frW q F 1 * toW q H 2 = wt3 q F H 2 * frW q F 2 * toW q H 1 ∧ wt3 q F H 0 * frW q F 0 * toW q H 2 = wt3 q F H 2 * frW q F 2 * toW q H 0 ∧ wt3 q F H 0 ≠ 0 ∧ wt3 q F H 1 ≠ 0 ∧ wt3 q F H 2 ≠ 0 := by
  have a := lst_prp (z := pr1 q F H) (n := 2) (i := 0) (j := 1) (by omega) (by omega)
  have b := lst_prp (z := pr2 q F H) (n := 2) (i := 0) (j := 1) (by omega) (by omega)
  have p10 : pr1 q F H 0 = toW q H 0 * frW q F 1 := rfl
  have p11 : pr1 q F H 1 = toW q H 1 * frW q F 0 := rfl
  have p20 : pr2 q F H 0 = toW q H 1 * frW q F 2 := rfl
  have p21 : pr2 q F H 1 = toW q H 2 * frW q F 1 := rfl
  have na0 : lst (pr1 q F H) 2 0 ≠ 0 := lst_ne (by omega) (by rw [p10]; exact Int.mul_ne_zero t0 f1)
  have na1 : lst (pr1 q F H) 2 1 ≠ 0 := lst_ne (by omega) (by rw [p11]; exact Int.mul_ne_zero t1 f0)
  have nb0 : lst (pr2 q F H) 2 0 ≠ 0 := lst_ne (by omega) (by rw [p20]; exact Int.mul_ne_zero t1 f2)
  have nb1 : lst (pr2 q F H) 2 1 ≠ 0 := lst_ne (by omega) (by rw [p21]; exact Int.mul_ne_zero t2 f1)
  have w0 : wt3 q F H 0 = lst (pr1 q F H) 2 0 * lst (pr2 q F H) 2 0 := rfl
  have w1 : wt3 q F H 1 = lst (pr1 q F H) 2 1 * lst (pr2 q F H) 2 0 := rfl
  have w2 : wt3 q F H 2 = lst (pr1 q F H) 2 1 * lst (pr2 q F H) 2 1 := rfl
  rw [p10, p11] at a
  rw [p20, p21] at b
  rw [w0, w1, w2]
  generalize lst (pr1 q F H) 2 0 = a0 at *
  generalize lst (pr1 q F H) 2 1 = a1 at *
  generalize lst (pr2 q F H) 2 0 = b0 at *
  generalize lst (pr2 q F H) 2 1 = b1 at *
  generalize frW q F 0 = r0 at *
  generalize frW q F 1 = r1 at *
  generalize frW q F 2 = r2 at *
  generalize toW q H 0 = s0 at *
  generalize toW q H 1 = s1 at *
  generalize toW q H 2 = s2 at *
  have e1 : a0 * b0 * r0 * s1 = a1 * b0 * r1 * s0 := by grind
  have e2 : a1 * b0 * r1 * s2 = a1 * b1 * r2 * s1 := by grind
  refine ⟨e1, e2, ?_, Int.mul_ne_zero na0 nb0, Int.mul_ne_zero na1 nb0, Int.mul_ne_zero na1 nb1⟩
  refine Int.eq_of_mul_eq_mul_left (Int.mul_ne_zero f1 t1) ?_
  grind
theorem scale_rel {z : Nat → Int} {n i j : Nat} (hg : gN z n ≠ 0) (hi : i < n) (hj : j < n) {x y : Int} (h : z i * x = z j * y) : lst z n i * x = lst z n j * y := by
  have h1 := lst_mul (z := z) (n := n) hi
  have h2 := lst_mul (z := z) (n := n) hj
  have hG : ((gN z n : Nat) : Int) * sN z n ≠ 0 := by rcases sN_or z n with q | q <;> rw [q] <;> omega
  rw [h1, h2] at h
  exact Int.eq_of_mul_eq_mul_left hG (by rw [← Int.mul_assoc, ← Int.mul_assoc]; exact h)
/-- what a table that takes the four points gives -/
theorem prj_lam {S : SO} {V : SV} {g : Nat → Nat → Int} (hg : g = gq S V) (hP : ptsP S V 8) (hD : dt9 (g 0) (g 1) (g 2) ≠ 0) (hE : dt9 (g 4) (g 5) (g 6) ≠ 0) {T' : Nat → Int} (hb' : ∀ i, i < 9 → ab (T' i) 500) (ht : triB S V T' 7 4 = true) :
    ∃ c : Nat → Int, ∃ k : Int, (∀ i j, i < 3 → j < 3 → pimg T' (g i) j = c i * g (4 + i) j) ∧ (∀ i, i < 3 → ab (c i) 750000 ∧ c i ≠ 0) ∧ k ≠ 0 ∧ ∀ i, i < 3 → c i * frW g (sidF g 0) i * dt9 (g 4) (g 5) (g 6) = k * toW g (sidF g 4) i := by
  obtain ⟨t1, -, -⟩ := tri_parts ht
  rw [← hg] at t1
  have hd := triB_det ht
  have hex : ∀ i, i < 4 → ∃ c : Int, ∀ j, j < 3 → pimg T' (g i) j = c * g (4 + i) j := fun i hi => prim (by rw [hg]; exact hP.1 (4 + i) (by omega)) (t1 i hi)
  have hne : ∀ i c, i < 4 → (∀ j, j < 3 → pimg T' (g i) j = c * g (4 + i) j) → ab c 750000 ∧ c ≠ 0 := by
    intro i c hi hc
    have hl := hP.1 (4 + i) (by omega)
    have hl0 := hP.1 i (by omega)
    rw [← hg] at hl hl0
    obtain ⟨f, f1, f2, f3, -⟩ := fN_ex (show fN (g (4 + i)) 3 ≠ 0 by have := hl.2; omega)
    have hbd := pimg_bd (r := g i) hb' (fun j hj => by rw [hg]; exact hP.2 i j (by omega) hj) f f1
    rw [hc f f1] at hbd
    refine ⟨?_, fun q => ?_⟩
    · have h1 := ab_nat.mp hbd
      rw [Int.natAbs_mul] at h1
      have h2 : c.natAbs ≤ c.natAbs * (g (4 + i) f).natAbs := Nat.le_mul_of_pos_right _ (by omega)
      exact ab_nat.mpr (by omega)
    · have hz : ∀ j, j < 3 → g i j = 0 := pimg_0 hd (fun j hj => by rw [hc j hj, q, Int.zero_mul])
      have : gN (g i) 3 = gN (fun _ => (0 : Int) * 0) 3 := gN_congr (fun j hj => by rw [hz j hj]; rfl)
      rw [gN_scale, hl0.1] at this
      simp at this
  obtain ⟨c0, hc0⟩ := hex 0 (by omega)
  obtain ⟨c1, hc1⟩ := hex 1 (by omega)
  obtain ⟨c2, hc2⟩ := hex 2 (by omega)
  obtain ⟨c3, hc3⟩ := hex 3 (by omega)
  have hc : ∀ i j, i < 3 → j < 3 → pimg T' (g i) j = vec3 c0 c1 c2 i * g (4 + i) j := by
    intro i j hi hj
    rcases (show i = 0 ∨ i = 1 ∨ i = 2 by omega) with rfl | rfl | rfl
    · exact hc0 j hj
    · exact hc1 j hj
    · exact hc2 j hj
  refine ⟨vec3 c0 c1 c2, dt9 (g 0) (g 1) (g 2) * c3, hc, ?_, Int.mul_ne_zero hD (hne 3 c3 (by omega) hc3).2, ?_⟩
  · intro i hi
    rcases (show i = 0 ∨ i = 1 ∨ i = 2 by omega) with rfl | rfl | rfl
    · exact hne 0 c0 (by omega) hc0
    · exact hne 1 c1 (by omega) hc1
    · exact hne 2 c2 (by omega) hc2
  · -- the fourth point
    have h3 : ∀ j, j < 3 → dt9 (g 0) (g 1) (g 2) * (c3 * g 7 j) = c0 * dt3 (sidF g 0 0) (g 3) * g 4 j + c1 * dt3 (sidF g 0 1) (g 3) * g 5 j + c2 * dt3 (sidF g 0 2) (g 3) * g 6 j := by
      intro j hj
      have h4 := wgt_img (vec3 c0 c1 c2) g (sidF g 0) 4 j hj (g 3)
      have h5 : pimg (wgt (vec3 c0 c1 c2) g (sidF g 0) 4) (g 3) j = dt9 (g 0) (g 1) (g 2) * pimg T' (g 3) j := by
        unfold pimg
        rw [← from_img hc (3 * j) (by omega), ← from_img hc (3 * j + 1) (by omega), ← from_img hc (3 * j + 2) (by omega)]
        grind
      rw [h5, hc3 j hj] at h4
      exact h4
    have k0 := h3 0 (by omega)
    have k1 := h3 1 (by omega)
    have k2 := h3 2 (by omega)
    intro i hi
    have d0 := sid_dot (g := g) (i := i) (k := 0) hi (by omega) 4
    have d1 := sid_dot (g := g) (i := i) (k := 1) hi (by omega) 4
    have d2 := sid_dot (g := g) (i := i) (k := 2) hi (by omega) 4
    simp only [Nat.reduceAdd, Nat.add_zero] at d0 d1 d2
    have hdot : dt9 (g 0) (g 1) (g 2) * c3 * dt3 (sidF g 4 i) (g 7) = c0 * dt3 (sidF g 0 0) (g 3) * dt3 (sidF g 4 i) (g 4) + c1 * dt3 (sidF g 0 1) (g 3) * dt3 (sidF g 4 i) (g 5) + c2 * dt3 (sidF g 0 2) (g 3) * dt3 (sidF g 4 i) (g 6) := by
      generalize hh : sidF g 4 i = h at *
      generalize dt3 (sidF g 0 0) (g 3) = r0 at *
      generalize dt3 (sidF g 0 1) (g 3) = r1 at *
      generalize dt3 (sidF g 0 2) (g 3) = r2 at *
      generalize dt9 (g 0) (g 1) (g 2) = D at *
      unfold dt3
      grind
    rw [d0, d1, d2] at hdot
    unfold frW toW
    rw [hdot]
    rcases (show i = 0 ∨ i = 1 ∨ i = 2 by omega) with rfl | rfl | rfl <;> simp [vec3]
theorem rel_cancel {wi wj ci cj ri rj si sj E k : Int} (hw : wi * ri * sj = wj * rj * si) (hi : ci * ri * E = k * si) (hj : cj * rj * E = k * sj) (h1 : ri ≠ 0) (h2 : rj ≠ 0) (h3 : E ≠ 0) : wi * cj = wj * ci := by
  refine Int.eq_of_mul_eq_mul_left (Int.mul_ne_zero (Int.mul_ne_zero h1 h2) h3) ?_
  grind
theorem prj_bad {S : SO} {V : SV} {M : SM} {g : Nat → Nat → Int} (hg : g = gq S V) (hP : ptsP S V 8) (hD : dt9 (g 0) (g 1) (g 2) ≠ 0) (hE : dt9 (g 4) (g 5) (g 6) ≠ 0) (hf : ∀ i, i < 3 → frW g (sidF g 0) i ≠ 0) (ht : ∀ i, i < 3 → toW g (sidF g 4) i ≠ 0) (hw : fwB g (sidF g 0) (sidF g 4) = false) : bpy S V M 7 3 0 = (-4, M) := by
  refine bpy_none (fun T' hb' htr => ?_) 3 0
  obtain ⟨c, k, -, h2, hk, h4⟩ := prj_lam hg hP hD hE hb' htr
  have l0 := h4 0 (by omega)
  have l1 := h4 1 (by omega)
  have l2 := h4 2 (by omega)
  have f0 := hf 0 (by omega)
  have f1 := hf 1 (by omega)
  have f2 := hf 2 (by omega)
  have t0 := ht 0 (by omega)
  have t1 := ht 1 (by omega)
  have t2 := ht 2 (by omega)
  have hwr := wt3_rel f0 f1 f2 t0 t1 t2
  have b0 := h2 0 (by omega)
  have b1 := h2 1 (by omega)
  have b2 := h2 2 (by omega)
  have small : ∀ {z w : Nat → Int} {n : Nat}, gN w n ≠ 0 → (∀ i, i < n → ab (w i) 750000) → (∀ i, i < n → lst z n i = lst w n i) → fitM 750000 z n n = true := by
    intro z w n hgw hbw hl
    refine fitM_of (fun i hi => ?_)
    rw [hl i hi]
    have h1 := lst_le hgw hi
    have h2 := ab_nat.mp (hbw i hi)
    exact ab_nat.mpr (by omega)
  generalize hE9 : dt9 (g 4) (g 5) (g 6) = E at *
  have e1 : fitM 750000 (pr1 g (sidF g 0) (sidF g 4)) 2 2 = true := by
    refine small (w := v2 (c 0) (c 1)) (gN_ne (i := 0) (by omega) b0.2) (fun i hi => ?_) (prp2_lst ?_ (Int.mul_ne_zero t0 f1) b0.2)
    · rcases (show i = 0 ∨ i = 1 by omega) with rfl | rfl
      · exact b0.1
      · exact b1.1
    · refine Int.eq_of_mul_eq_mul_left hk ?_
      grind
  have e2 : fitM 750000 (pr2 g (sidF g 0) (sidF g 4)) 2 2 = true := by
    refine small (w := v2 (c 1) (c 2)) (gN_ne (i := 0) (by omega) b1.2) (fun i hi => ?_) (prp2_lst ?_ (Int.mul_ne_zero t1 f2) b1.2)
    · rcases (show i = 0 ∨ i = 1 by omega) with rfl | rfl
      · exact b1.1
      · exact b2.1
    · refine Int.eq_of_mul_eq_mul_left hk ?_
      grind
  have e3 : fitM 750000 (wt3 g (sidF g 0) (sidF g 4)) 3 3 = true := by
    refine small (w := c) (gN_ne (i := 0) (by omega) b0.2) (fun i hi => (h2 i hi).1) (prp_lst (gN_ne (i := 0) (by omega) hwr.2.2.2.1) (gN_ne (i := 0) (by omega) b0.2) ?_)
    obtain ⟨r1, r2, r3, -⟩ := hwr
    have k01 := rel_cancel r1 l0 l1 f0 f1 hE
    have k12 := rel_cancel r2 l1 l2 f1 f2 hE
    have k02 := rel_cancel r3 l0 l2 f0 f2 hE
    intro i j hi hj
    rcases (show i = 0 ∨ i = 1 ∨ i = 2 by omega) with rfl | rfl | rfl <;> rcases (show j = 0 ∨ j = 1 ∨ j = 2 by omega) with rfl | rfl | rfl <;> first | rfl | exact k01 | exact k02 | exact k12 | exact k01.symm | exact k02.symm | exact k12.symm
  unfold fwB at hw
  rw [e1, e2, e3] at hw
  cases hw
theorem four_key {w0 w1 w2 r0 r1 r2 t0 t1 t2 E a b c d : Int} (s1 : w0 * r0 * t1 = w1 * r1 * t0) (s3 : w0 * r0 * t2 = w2 * r2 * t0) (h : t0 * a + t1 * b + t2 * c = E * d) : t0 * (w0 * r0 * a + w1 * r1 * b + w2 * r2 * c) = w0 * r0 * E * d := by
  have q1 : t0 * (w0 * r0 * a + w1 * r1 * b + w2 * r2 * c) = w0 * r0 * (t0 * a + t1 * b + t2 * c) := by grind
  rw [q1, h]
  grind
theorem prj_eq {S : SO} {V : SV} {M : SM} {g : Nat → Nat → Int} (hg : g = gq S V) (hP : ptsP S V 8) (hD : dt9 (g 0) (g 1) (g 2) ≠ 0) (hE : dt9 (g 4) (g 5) (g 6) ≠ 0) (hf : ∀ i, i < 3 → frW g (sidF g 0) i ≠ 0) (ht : ∀ i, i < 3 → toW g (sidF g 4) i ≠ 0) (hw : fwB g (sidF g 0) (sidF g 4) = true) : bpy S V M 7 3 0 = addM M (wgt (prjW g) g (sidF g 0) 4) ∧ det9 (wgt (prjW g) g (sidF g 0) 4) ≠ 0 := by
  have hb := hP.2
  rw [← hg] at hb
  have f0 := hf 0 (by omega)
  have f1 := hf 1 (by omega)
  have f2 := hf 2 (by omega)
  have t0 := ht 0 (by omega)
  have t1 := ht 1 (by omega)
  have t2 := ht 2 (by omega)
  obtain ⟨r1, r2, r3, n0, n1, n2⟩ := wt3_rel f0 f1 f2 t0 t1 t2
  have hgw : gN (wt3 g (sidF g 0) (sidF g 4)) 3 ≠ 0 := gN_ne (i := 0) (by omega) n0
  have hwb : ∀ i, i < 3 → ab (prjW g i) 750000 := by
    unfold fwB at hw
    simp only [Bool.and_eq_true] at hw
    intro i hi
    exact fitM_le hw.2.2 i hi
  have m0 : prjW g 0 ≠ 0 := lst_ne (by omega) n0
  have m1 : prjW g 1 ≠ 0 := lst_ne (by omega) n1
  have m2 : prjW g 2 ≠ 0 := lst_ne (by omega) n2
  have s1 : prjW g 0 * (frW g (sidF g 0) 0 * toW g (sidF g 4) 1) = prjW g 1 * (frW g (sidF g 0) 1 * toW g (sidF g 4) 0) := scale_rel hgw (by omega) (by omega) (by rw [← Int.mul_assoc, ← Int.mul_assoc]; exact r1)
  have s2 : prjW g 1 * (frW g (sidF g 0) 1 * toW g (sidF g 4) 2) = prjW g 2 * (frW g (sidF g 0) 2 * toW g (sidF g 4) 1) := scale_rel hgw (by omega) (by omega) (by rw [← Int.mul_assoc, ← Int.mul_assoc]; exact r2)
  have s3 : prjW g 0 * (frW g (sidF g 0) 0 * toW g (sidF g 4) 2) = prjW g 2 * (frW g (sidF g 0) 2 * toW g (sidF g 4) 0) := scale_rel hgw (by omega) (by omega) (by rw [← Int.mul_assoc, ← Int.mul_assoc]; exact r3)
  rw [← Int.mul_assoc, ← Int.mul_assoc] at s1 s2 s3
  have hp := P0_pr
  have uD := pu_ab (dt9_bd (fun i hi => hb 0 i (by omega) hi) (fun i hi => hb 1 i (by omega) hi) (fun i hi => hb 2 i (by omega) hi)) (by decide) hD
  have uE := pu_ab (dt9_bd (fun i hi => hb 4 i (by omega) hi) (fun i hi => hb 5 i (by omega) hi) (fun i hi => hb 6 i (by omega) hi)) (by decide) hE
  have um0 := pu_ab (hwb 0 (by omega)) (by decide) m0
  have um1 := pu_ab (hwb 1 (by omega)) (by decide) m1
  have um2 := pu_ab (hwb 2 (by omega)) (by decide) m2
  have hshb : ∀ (s i : Nat), s + 3 < 8 → i < 3 → ab (dt3 (sidF g s i) (g (s + 3))) 750000000 := by
    intro s i hs hi
    have hm1 := Nat.mod_lt (i + 1) (show 0 < 3 by omega)
    have hm2 := Nat.mod_lt (i + 2) (show 0 < 3 by omega)
    exact ab_le (dt3_bd (fun j hj => crs_bd (fun k hk => hb (s + (i + 1) % 3) k (by omega) hk) (fun k hk => hb (s + (i + 2) % 3) k (by omega) hk) j) (fun j hj => hb (s + 3) j (by omega) hj)) (by decide)
  have ufr : ∀ i, i < 3 → pu (P0 : Int) (frW g (sidF g 0) i) := fun i hi => pu_ab (hshb 0 i (by omega) hi) (by decide) (hf i hi)
  have uto : ∀ i, i < 3 → pu (P0 : Int) (toW g (sidF g 4) i) := fun i hi => pu_ab (hshb 4 i (by omega) hi) (by decide) (ht i hi)
  have udet : pu (P0 : Int) (det9 (wgt (prjW g) g (sidF g 0) 4)) := by
    rw [wgt_det]
    exact pu_mul hp (pu_mul hp (pu_mul hp (pu_mul hp um0 um1) um2) uE) (pu_mul hp uD uD)
  have hdet : det9 (wgt (prjW g) g (sidF g 0) 4) ≠ 0 := fun q => udet (by rw [q]; exact Int.dvd_zero _)
  refine ⟨bpy_eq hdet ?_ ?_ ?_, hdet⟩
  · intro T' hb' htr
    obtain ⟨c, k, h1, h2, hk, h4⟩ := prj_lam hg hP hD hE hb' htr
    have l0 := h4 0 (by omega)
    have l1 := h4 1 (by omega)
    have l2 := h4 2 (by omega)
    have k01 := rel_cancel s1 l0 l1 f0 f1 hE
    have k12 := rel_cancel s2 l1 l2 f1 f2 hE
    have k02 := rel_cancel s3 l0 l2 f0 f2 hE
    refine wgt_uni hD h1 (fun i j hi hj => ?_)
    rcases (show i = 0 ∨ i = 1 ∨ i = 2 by omega) with rfl | rfl | rfl <;> rcases (show j = 0 ∨ j = 1 ∨ j = 2 by omega) with rfl | rfl | rfl <;> first | rfl | (rw [Int.mul_comm, Int.mul_comm (c _)]; first | exact k01 | exact k02 | exact k12 | exact k01.symm | exact k02.symm | exact k12.symm)
  · intro hfit
    rw [prm_0]
    have hK : ∀ i, i < 3 → cg P0 (frW g (sidF g 0) i * prjK P0 S V i) (toW g (sidF g 4) i) := by
      intro i hi
      have e0 : shr S V 0 i = frW g (sidF g 0) i := by rw [hg]; rfl
      have e4 : shr S V 4 i = toW g (sidF g 4) i := by rw [hg]; rfl
      unfold prjK
      rw [e0, e4]
      have h1 := cg_inv hp (ufr i hi)
      generalize frW g (sidF g 0) i = r at *
      generalize toW g (sidF g 4) i = t at *
      have h2 : cg P0 (r * (t % P0 * invp P0 r % P0)) (r * (t * invp P0 r)) := (cg.rf _).ml ((cg.mo _).tr ((cg.mo _).ml (cg.rf _)))
      refine h2.tr ?_
      have h3 := h1.ml (cg.rf (p := (P0 : Int)) t)
      rw [Int.one_mul] at h3
      rw [show r * (t * invp P0 r) = r * invp P0 r * t by grind]
      exact h3
    have uK0 : pu (P0 : Int) (prjK P0 S V 0) := pu_r (pu_cg (hK 0 (by omega)).sm (uto 0 (by omega)))
    -- the shares go with the weights
    have hKw : ∀ i, i < 3 → prjW g 0 * frW g (sidF g 0) 0 * toW g (sidF g 4) i = prjW g i * frW g (sidF g 0) i * toW g (sidF g 4) 0 → cg P0 (prjW g 0 * prjK P0 S V i) (prjK P0 S V 0 * prjW g i) := by
      intro i hi hrel
      refine cg_cancel hp (pu_mul hp (ufr 0 (by omega)) (ufr i hi)) ?_
      have a0 := hK 0 (by omega)
      have ai := hK i hi
      generalize frW g (sidF g 0) 0 = r0 at *
      generalize frW g (sidF g 0) i = ri at *
      generalize toW g (sidF g 4) 0 = t0 at *
      generalize toW g (sidF g 4) i = ti at *
      generalize prjK (P0 : Int) S V 0 = K0 at *
      generalize prjK (P0 : Int) S V i = Ki at *
      have x1 := (cg.rf (p := (P0 : Int)) (prjW g 0 * r0)).ml ai
      have x2 := (cg.rf (p := (P0 : Int)) (prjW g i * ri)).ml a0
      refine (cg.of ?_).tr (x1.tr ((cg.of ?_).tr (x2.sm.tr (cg.of ?_))))
      · grind
      · rw [hrel]
      · grind
    refine tel_ok (W := prjW g 0) (C := prjK P0 S V 0) hp (by decide) (fun i hi => bpT_rz (prm_ok 0) 7 S V i) udet hfit um0 uK0 (fun n hn9 => ?_)
    show cg P0 (prjW g 0 * prjT P0 S V n) (prjK P0 S V 0 * wgt (prjW g) g (sidF g 0) 4 n)
    have hps := psm_cg (p := P0) (prjK P0 S V) (fun i => gq S V (4 + i) (n / 3) * trn S V 0 i (n % 3))
    have hW := (cg.rf (p := (P0 : Int)) (prjW g 0)).ml hps
    refine hW.tr ?_
    have ex : ∀ i, gq S V (4 + i) (n / 3) * trn S V 0 i (n % 3) = g (4 + i) (n / 3) * sidF g 0 i (n % 3) := fun i => by rw [← hg]; unfold trn sidF; rw [← hg]
    simp only [ex]
    have h1 := hKw 1 (by omega) s1
    have h2 := hKw 2 (by omega) s3
    have g1 := h1.ml (cg.rf (g (4 + 1) (n / 3) * sidF g 0 1 (n % 3)))
    have g2 := h2.ml (cg.rf (g (4 + 2) (n / 3) * sidF g 0 2 (n % 3)))
    have g0 := cg.rf (p := (P0 : Int)) (prjW g 0 * prjK P0 S V 0 * (g (4 + 0) (n / 3) * sidF g 0 0 (n % 3)))
    have f := (g0.ad g1).ad g2
    refine (cg.of ?_).tr (f.tr (cg.of ?_))
    · generalize prjK (P0 : Int) S V 0 = K0
      generalize prjK (P0 : Int) S V 1 = K1
      generalize prjK (P0 : Int) S V 2 = K2
      grind
    · simp only [wgt, Nat.add_zero]
      generalize prjK (P0 : Int) S V 0 = K0
      grind
  · refine tri_of hdet (fun i hi => ?_) (fun q => absurd q (by decide)) (fun q => absurd q (by decide)) (Or.inr (Or.inr rfl))
    have hi4 : i < 4 := hi
    rw [← hg]
    show prp _ (g (4 + i)) 3
    by_cases h3 : i < 3
    · intro a b ha hb2
      rw [wgt_at _ g 4 i a h3 ha, wgt_at _ g 4 i b h3 hb2]
      grind
    · have hi3 : i = 3 := by omega
      subst hi3
      -- the fourth point
      have key : ∀ j, j < 3 → toW g (sidF g 4) 0 * pimg (wgt (prjW g) g (sidF g 0) 4) (g 3) j = prjW g 0 * frW g (sidF g 0) 0 * dt9 (g 4) (g 5) (g 6) * g 7 j := by
        intro j hj
        rw [wgt_img _ g _ 4 j hj]
        have hcr := cramer g 4 j hj (g 7)
        simp only [Nat.reduceAdd] at hcr
        exact four_key s1 s3 hcr
      intro a b ha hb2
      refine Int.eq_of_mul_eq_mul_left t0 ?_
      have z1 := key a ha
      have z2 := key b hb2
      show toW g (sidF g 4) 0 * (_ * g 7 b) = toW g (sidF g 4) 0 * (_ * g 7 a)
      rw [← Int.mul_assoc, ← Int.mul_assoc, z1, z2]
      grind
