theorem tkr_some {m f : Nat → Int} (h : tkr m = some f) : ∃ r, r < 3 ∧ f = rw3 m r ∧ nz3 (rw3 m r) = true := by
  unfold tkr at h
  split at h
  · next q => exact ⟨0, by omega, (Option.some.inj h).symm, q⟩
  · split at h
    · next q => exact ⟨1, by omega, (Option.some.inj h).symm, q⟩
    · split at h
      · next q => exact ⟨2, by omega, (Option.some.inj h).symm, q⟩
      · cases h
theorem tkr_none {m : Nat → Int} (h : tkr m = none) (r : Nat) (hr : r < 3) : nz3 (rw3 m r) = false := by
  unfold tkr at h
  split at h
  · cases h
  · next q0 =>
    split at h
    · cases h
    · next q1 =>
      split at h
      · cases h
      · next q2 =>
        rcases (show r = 0 ∨ r = 1 ∨ r = 2 by omega) with rfl | rfl | rfl
        · exact Bool.eq_false_iff.mpr q0
        · exact Bool.eq_false_iff.mpr q1
        · exact Bool.eq_false_iff.mpr q2
theorem nz3_congr {u v : Nat → Int} (h : ∀ i, i < 3 → u i = v i) : nz3 u = nz3 v := by
  unfold nz3
  rw [h 0 (by omega), h 1 (by omega), h 2 (by omega)]
theorem cr3_nz {m : Nat → Int} {r : Nat} (hr : r < 3) : nz3 (cr3 m r) = nz3 (rw3 (tr9 (adj9 m)) ((r + 2) % 3)) := nz3_congr (fun i hi => adj_col m r i hr hi)
/-- the reference's rank and row beside the class's -/
theorem rkv_fxb {x : Nat → Int} {z : Int} (hd : det9 (lss x z) = 0) :
    ((rkv (lss x z)).1 = 2 ∧ (fxb x z).1 = 0 ∧ prp (rkv (lss x z)).2 (fxb x z).2 3 ∧ gN (rkv (lss x z)).2 3 ≠ 0 ∧ gN (fxb x z).2 3 ≠ 0) ∨
    ((rkv (lss x z)).1 = 1 ∧ (fxb x z).1 = 1 ∧ (rkv (lss x z)).2 = (fxb x z).2 ∧ ∃ r, r < 3 ∧ (fxb x z).2 = rw3 (lss x z) r) ∧ (∀ r, r < 3 → nz3 (cr3 (lss x z) r) = false) ∨
    ((rkv (lss x z)).1 = 0 ∧ (fxb x z).1 = 2) := by
  generalize hm : lss x z = m at *
  unfold fxb
  rw [hm]
  cases ht : tkr (tr9 (adj9 m)) with
  | some f =>
    left
    obtain ⟨r, hr, rfl, hnz⟩ := tkr_some ht
    have hmem : ∃ s, s < 3 ∧ (rkv m).1 = 2 ∧ (rkv m).2 = cr3 m s ∧ nz3 (cr3 m s) = true := by
      unfold rkv
      rw [if_neg (fun q => q hd)]
      by_cases h0 : nz3 (cr3 m 0) = true
      · rw [if_pos h0]; exact ⟨0, by omega, rfl, rfl, h0⟩
      rw [if_neg h0]
      by_cases h1 : nz3 (cr3 m 1) = true
      · rw [if_pos h1]; exact ⟨1, by omega, rfl, rfl, h1⟩
      rw [if_neg h1]
      by_cases h2 : nz3 (cr3 m 2) = true
      · rw [if_pos h2]; exact ⟨2, by omega, rfl, rfl, h2⟩
      exfalso
      have hs : nz3 (cr3 m ((r + 1) % 3)) = true := by
        rw [cr3_nz (Nat.mod_lt _ (by omega)), show ((r + 1) % 3 + 2) % 3 = r by omega]
        exact hnz
      rcases (show (r + 1) % 3 = 0 ∨ (r + 1) % 3 = 1 ∨ (r + 1) % 3 = 2 by omega) with e | e | e <;> rw [e] at hs <;> contradiction
    obtain ⟨s, hs, k1, k2, k3⟩ := hmem
    refine ⟨k1, rfl, ?_, ?_, nz3_gN hnz⟩
    · rw [k2]
      intro i j hi hj
      rw [adj_col m s i hs hi, adj_col m s j hs hj]
      show tr9 (adj9 m) (3 * ((s + 2) % 3) + i) * tr9 (adj9 m) (3 * r + j) = tr9 (adj9 m) (3 * ((s + 2) % 3) + j) * tr9 (adj9 m) (3 * r + i)
      exact adj_minor hd _ _ _ _ (Nat.mod_lt _ (by omega)) hr hi hj
    · rw [k2]
      exact nz3_gN k3
  | none =>
    right
    have hz : ∀ r, r < 3 → nz3 (cr3 m r) = false := fun r hr => by
      rw [cr3_nz hr]
      exact tkr_none ht _ (Nat.mod_lt _ (by omega))
    have e : rkv m = if nz3 (rw3 m 0) then (1, rw3 m 0) else if nz3 (rw3 m 1) then (1, rw3 m 1) else if nz3 (rw3 m 2) then (1, rw3 m 2) else (0, fun _ => 0) := by
      unfold rkv
      rw [if_neg (fun q => q hd), if_neg (by rw [hz 0 (by omega)]; decide), if_neg (by rw [hz 1 (by omega)]; decide), if_neg (by rw [hz 2 (by omega)]; decide)]
    dsimp only
    rw [e]
    unfold tkr
    by_cases h0 : nz3 (rw3 m 0) = true
    · rw [if_pos h0, if_pos h0]; exact Or.inl ⟨⟨rfl, rfl, rfl, 0, by omega, rfl⟩, hz⟩
    rw [if_neg h0, if_neg h0]
    by_cases h1 : nz3 (rw3 m 1) = true
    · rw [if_pos h1, if_pos h1]; exact Or.inl ⟨⟨rfl, rfl, rfl, 1, by omega, rfl⟩, hz⟩
    rw [if_neg h1, if_neg h1]
    by_cases h2 : nz3 (rw3 m 2) = true
    · rw [if_pos h2, if_pos h2]; exact Or.inl ⟨⟨rfl, rfl, rfl, 2, by omega, rfl⟩, hz⟩
    rw [if_neg h2, if_neg h2]
    exact Or.inr ⟨rfl, rfl⟩
theorem fixed_eq {S : SS} (hB : mapB S) (m k : Int) : spc_fixed S m k = sp_fixed S m k := by
  unfold spc_fixed sp_fixed
  congr 1
  unfold spc_fixedO sp_fixedO fixv
  by_cases h : 0 ≤ m ∧ m < S.2.1.1
  · have hx : ∀ i, i < 9 → ab (S.2.1.2 m.toNat i) 500 := fun i hi => hB m.toNat i (by omega) hi
    rw [if_pos h, if_pos h, vlI_ovs hx]
    by_cases hk : 0 ≤ k ∧ k < (ovs (S.2.1.2 m.toNat)).1
    · rw [if_pos hk, if_pos hk]
      have hin := ovs_in hx k.toNat (by omega)
      have hrt := ovs_root hx (t := k.toNat) (by omega)
      generalize hz : (ovs (S.2.1.2 m.toNat)).2 k.toNat = z at *
      have hzn : ¬ z = -9223372036854775808 := by omega
      rcases rkv_fxb hrt with ⟨a1, a2, a3, a4, a5⟩ | ⟨⟨a1, a2, a3, -⟩, -⟩ | ⟨a1, a2⟩
      · rw [a1, a2, if_neg hzn]
        show addO S.1 0 3 _ = addO S.1 0 3 _
        exact addO_prp a5 a4 (fun i j hi hj => by rw [Int.mul_comm, Int.mul_comm ((fxb _ _).2 j)]; exact (a3 j i hj hi)) S.1 0
      · rw [a1, a2, if_neg hzn]
        show addO S.1 1 3 _ = addO S.1 1 3 _
        rw [a3]
      · rw [a1, a2, if_neg hzn]
        rfl
    · rw [if_neg hk, if_neg hk, if_pos rfl]
  · rw [if_neg h, if_neg h]
/-! kinds -/
theorem flat_eq {x : Nat → Int} (h9 : ¬ all9 x) (h6 : x 6 = 0) (h7 : x 7 = 0) : caff x = flatv x := by
  unfold caff flatv
  by_cases c1 : x 0 = x 4 ∧ x 1 = - x 3
  · rw [if_pos c1, if_pos c1]
    unfold clik szB
    simp only [decide_eq_true_eq]
    by_cases h1 : x 1 = 0
    · by_cases h2 : x 0 = x 8
      · rw [if_pos ⟨h1, h2⟩, if_neg h9, if_pos h1, if_pos h2]
      · rw [if_neg (fun q => h2 q.2), if_pos h1, if_pos h1, if_neg h2]
    · rw [if_neg (fun q => h1 q.1), if_neg h1, if_neg h1]
  rw [if_neg c1, if_neg c1]
  by_cases c2 : x 0 = - x 4 ∧ x 1 = x 3
  · rw [if_pos c2, if_pos c2]
    unfold cturn szB klpB
    simp only [decide_eq_true_eq]
    by_cases hs : x 0 * x 0 + x 1 * x 1 = x 8 * x 8
    · have hs2 : ¬ ¬ (x 0 * x 0 + x 1 * x 1 = x 8 * x 8) := fun q => q hs
      rw [if_pos hs, if_neg hs2]
      have e4 : x 4 = - x 0 := by omega
      have e3 : x 3 = x 1 := c2.2.symm
      have hiff : ((x 0 - x 8) * (x 4 - x 8) = x 1 * x 3 ∧ (x 0 - x 8) * x 5 = x 2 * x 3 ∧ x 1 * x 5 = x 2 * (x 4 - x 8)) ↔ all9 (mul9 x x) := by
        simp only [all9, mul9, Nat.reduceDiv, Nat.reduceMod, Nat.reduceMul, Nat.reduceAdd, h6, h7, e4, e3]
        constructor
        · rintro ⟨-, k2, k3⟩
          refine ⟨by grind, by grind, by grind, by grind, by grind, by grind, by grind, by grind⟩
        · rintro ⟨-, -, -, k2, -, k5, -, -⟩
          refine ⟨by grind, by grind, by grind⟩
      by_cases hk : all9 (mul9 x x)
      · have hk2 := hiff.mpr hk
        rw [if_pos hk, if_pos hk2]
      · have hk2 := fun q => hk (hiff.mp q)
        rw [if_neg hk, if_neg hk2]
    · rw [if_neg hs, if_pos hs]
  rw [if_neg c2, if_neg c2]
  have hm : ∀ i, i < 9 → lss x (x 8) i = t9 (x 0 - x 8) (x 1) (x 2) (x 3) (x 4 - x 8) (x 5) 0 0 0 i := by
    intro i hi
    rcases (show i = 0 ∨ i = 1 ∨ i = 2 ∨ i = 3 ∨ i = 4 ∨ i = 5 ∨ i = 6 ∨ i = 7 ∨ i = 8 by omega) with rfl | rfl | rfl | rfl | rfl | rfl | rfl | rfl | rfl <;> simp [lss, t9, h6, h7]
  have hd : det9 (lss x (x 8)) = 0 := by
    rw [det9_congr hm]
    simp [det9, t9]
  have m0 := hm 0 (by omega)
  have m1 := hm 1 (by omega)
  have m2 := hm 2 (by omega)
  have m3 := hm 3 (by omega)
  have m4 := hm 4 (by omega)
  have m5 := hm 5 (by omega)
  have m6 := hm 6 (by omega)
  have m7 := hm 7 (by omega)
  have m8 := hm 8 (by omega)
  simp [t9] at m0 m1 m2 m3 m4 m5 m6 m7 m8
  have hiff : klpB x = true ↔ ((rkv (lss x (x 8))).1 = 1 ∧ ((rkv (lss x (x 8))).2 0 ≠ 0 ∨ (rkv (lss x (x 8))).2 1 ≠ 0)) := by
    unfold klpB
    simp only [decide_eq_true_eq]
    have c0 : ∀ i, cr3 (lss x (x 8)) 1 i = 0 ∧ cr3 (lss x (x 8)) 2 i = 0 := by
      intro i
      have h3 : ∀ k, k < 3 → lss x (x 8) (3 * 2 + k) = 0 := fun k hk => by
        rcases (show k = 0 ∨ k = 1 ∨ k = 2 by omega) with rfl | rfl | rfl
        · exact m6
        · exact m7
        · exact m8
      have q1 := h3 ((i + 1) % 3) (Nat.mod_lt _ (by omega))
      have q2 := h3 ((i + 2) % 3) (Nat.mod_lt _ (by omega))
      simp only [cr3, crs, rw3, Nat.reduceAdd, Nat.reduceMod, q1, q2]
      simp
    have n1 : nz3 (cr3 (lss x (x 8)) 1) = false := nz3_f.mpr ⟨(c0 0).1, (c0 1).1, (c0 2).1⟩
    have n2 : nz3 (cr3 (lss x (x 8)) 2) = false := nz3_f.mpr ⟨(c0 0).2, (c0 1).2, (c0 2).2⟩
    have n0 : nz3 (cr3 (lss x (x 8)) 0) = false ↔ ((x 0 - x 8) * (x 4 - x 8) = x 1 * x 3 ∧ (x 0 - x 8) * x 5 = x 2 * x 3 ∧ x 1 * x 5 = x 2 * (x 4 - x 8)) := by
      rw [nz3_f]
      simp only [cr3, crs, rw3, Nat.reduceAdd, Nat.reduceMod, Nat.reduceMul, m0, m1, m2, m3, m4, m5]
      constructor
      · rintro ⟨k0, k1, k2⟩
        exact ⟨by omega, by grind, by omega⟩
      · rintro ⟨k0, k1, k2⟩
        exact ⟨by omega, by grind, by omega⟩
    have r2 : nz3 (rw3 (lss x (x 8)) 2) = false := nz3_f.mpr ⟨m6, m7, m8⟩
    unfold rkv
    rw [if_neg (fun q => q hd)]
    by_cases hk : nz3 (cr3 (lss x (x 8)) 0) = true
    · rw [if_pos hk]
      constructor
      · intro q
        rw [n0.mpr q] at hk
        cases hk
      · intro q
        exact absurd q.1 (show ¬ (2 = 1) by decide)
    · rw [if_neg hk, if_neg (by rw [n1]; decide), if_neg (by rw [n2]; decide)]
      have hkl := n0.mp (Bool.eq_false_iff.mpr hk)
      refine ⟨fun _ => ?_, fun _ => hkl⟩
      obtain ⟨k0, k1, k2⟩ := hkl
      by_cases a0 : nz3 (rw3 (lss x (x 8)) 0) = true
      · rw [if_pos a0]
        refine ⟨rfl, ?_⟩
        show rw3 (lss x (x 8)) 0 0 ≠ 0 ∨ rw3 (lss x (x 8)) 0 1 ≠ 0
        simp only [rw3, Nat.reduceMul, Nat.reduceAdd, m0, m1]
        apply Classical.byContradiction
        intro hc
        have z0 : x 0 - x 8 = 0 := Classical.byContradiction (fun q => hc (Or.inl q))
        have z1 : x 1 = 0 := Classical.byContradiction (fun q => hc (Or.inr q))
        have z2 : x 2 ≠ 0 := by
          intro q
          have : nz3 (rw3 (lss x (x 8)) 0) = false := nz3_f.mpr ⟨by show lss x (x 8) 0 = 0; omega, by show lss x (x 8) 1 = 0; omega, by show lss x (x 8) 2 = 0; omega⟩
          rw [this] at a0
          cases a0
        rw [z0, Int.zero_mul] at k1
        rw [z1, Int.zero_mul] at k2
        have y1 : x 3 = 0 := by
          rcases Int.mul_eq_zero.mp k1.symm with q | q
          · exact absurd q z2
          · exact q
        have y2 : x 4 - x 8 = 0 := by
          rcases Int.mul_eq_zero.mp k2.symm with q | q
          · exact absurd q z2
          · exact q
        exact c1 ⟨by omega, by omega⟩
      · rw [if_neg a0]
        obtain ⟨b0, b1, b2⟩ := nz3_f.mp (Bool.eq_false_iff.mpr a0)
        simp only [rw3, Nat.reduceMul, Nat.reduceAdd, m0, m1, m2] at b0 b1 b2
        have hne : ¬ (x 3 = 0 ∧ x 4 - x 8 = 0) := fun q => c1 ⟨by omega, by omega⟩
        have a1 : nz3 (rw3 (lss x (x 8)) 1) = true := by
          refine nz3_t ?_
          simp only [rw3, Nat.reduceMul, Nat.reduceAdd, m3, m4]
          by_cases q : x 3 = 0
          · exact Or.inr (Or.inl (fun q2 => hne ⟨q, q2⟩))
          · exact Or.inl q
        rw [if_pos a1]
        refine ⟨rfl, ?_⟩
        show rw3 (lss x (x 8)) 1 0 ≠ 0 ∨ rw3 (lss x (x 8)) 1 1 ≠ 0
        simp only [rw3, Nat.reduceMul, Nat.reduceAdd, m3, m4]
        by_cases q : x 3 = 0
        · exact Or.inr (fun q2 => hne ⟨q, q2⟩)
        · exact Or.inl q
  by_cases hk : klpB x = true
  · rw [if_pos hk, if_pos (hiff.mp hk)]
    rfl
  · rw [if_neg hk, if_neg (fun q => hk (hiff.mpr q))]
    unfold careaI
    have : ((x 0 * x 4 - x 1 * x 3).natAbs : Int) = x 8 * x 8 ↔ (x 0 * x 4 - x 1 * x 3 = x 8 * x 8 ∨ x 0 * x 4 - x 1 * x 3 = - x 8 * x 8) := by
      have h0 : 0 ≤ x 8 * x 8 := by
        rcases Int.le_total 0 (x 8) with q | q
        · exact Int.mul_nonneg q q
        · exact Int.mul_nonneg_of_nonpos_of_nonpos q q
      rw [Int.neg_mul]
      omega
    by_cases q : ((x 0 * x 4 - x 1 * x 3).natAbs : Int) = x 8 * x 8
    · rw [if_pos q, if_pos (this.mp q)]
    · rw [if_neg q, if_neg (fun w => q (this.mpr w))]
/-- every second-order share of a table of rank at most one is nothing -/
theorem rk1_minor {m : Nat → Int} (hz : ∀ r, r < 3 → nz3 (cr3 m r) = false) (a b c d : Nat) (ha : a < 3) (hb : b < 3) (hc : c < 3) (hd : d < 3) : m (3 * a + c) * m (3 * b + d) = m (3 * a + d) * m (3 * b + c) := by
  obtain ⟨p0, p1, p2⟩ := nz3_f.mp (hz 0 (by omega))
  obtain ⟨q0, q1, q2⟩ := nz3_f.mp (hz 1 (by omega))
  obtain ⟨r0, r1, r2⟩ := nz3_f.mp (hz 2 (by omega))
  simp only [cr3, crs, rw3, Nat.reduceAdd, Nat.reduceMod, Nat.reduceMul] at p0 p1 p2 q0 q1 q2 r0 r1 r2
  rcases (show a = 0 ∨ a = 1 ∨ a = 2 by omega) with rfl | rfl | rfl <;> rcases (show b = 0 ∨ b = 1 ∨ b = 2 by omega) with rfl | rfl | rfl <;> rcases (show c = 0 ∨ c = 1 ∨ c = 2 by omega) with rfl | rfl | rfl <;> rcases (show d = 0 ∨ d = 1 ∨ d = 2 by omega) with rfl | rfl | rfl <;> first | rfl | exact Int.mul_comm _ _ | (simp only [Nat.reduceMul, Nat.reduceAdd]; grind)
theorem far_w {x : Nat → Int} {z : Int} (h1 : (rkv (lss x z)).1 = 1) (hd : det9 (lss x z) = 0) : farw x z = cpw x z := by
  rcases rkv_fxb hd with ⟨a1, -⟩ | ⟨⟨a1, a2, a3, r, hr, a4⟩, hz⟩ | ⟨a1, -⟩
  · rw [h1] at a1; cases a1
  rotate_left
  · rw [h1] at a1; cases a1
  have hnz : gN (rkv (lss x z)).2 3 ≠ 0 := rkv_gN (by rw [h1]; decide) (by rw [h1]; decide)
  unfold farw cpw
  rw [a3, a4] at hnz ⊢
  have hmin := rk1_minor hz
  have ht : lss x z 0 + lss x z 4 + lss x z 8 = tr3 x - 3 * z := by
    simp only [lss, tr3]
    simp
    omega
  generalize hm : lss x z = m at *
  -- the column
  have hcol : ∀ c, c < 3 → rw3 m r 0 * m c + rw3 m r 1 * m (3 + c) + rw3 m r 2 * m (6 + c) = rw3 m r c * (m 0 + m 4 + m 8) := by
    intro c hc
    have e0 := hmin r 0 0 c hr (by omega) (by omega) hc
    have e1 := hmin r 1 1 c hr (by omega) (by omega) hc
    have e2 := hmin r 2 2 c hr (by omega) (by omega) hc
    simp only [Nat.reduceMul, Nat.reduceAdd, Nat.zero_add] at e0 e1 e2
    show m (3 * r + 0) * m c + m (3 * r + 1) * m (3 + c) + m (3 * r + 2) * m (6 + c) = m (3 * r + c) * (m 0 + m 4 + m 8)
    rw [Int.mul_add, Int.mul_add]
    omega
  have hc3 : col1 (rw3 m r) < 3 := by unfold col1; split; omega; split <;> omega
  have hcn : rw3 m r (col1 (rw3 m r)) ≠ 0 := by
    unfold col1
    by_cases q0 : rw3 m r 0 = 0
    · rw [if_neg (fun q => q q0)]
      by_cases q1 : rw3 m r 1 = 0
      · rw [if_neg (fun q => q q1)]
        intro q2
        apply hnz
        have : gN (rw3 m r) 3 = gN (fun _ => (0 : Int) * 0) 3 := gN_congr (fun i hi => by
          rcases (show i = 0 ∨ i = 1 ∨ i = 2 by omega) with rfl | rfl | rfl
          · rw [q0]; rfl
          · rw [q1]; rfl
          · rw [q2]; rfl)
        rw [this, gN_scale]
        simp
      · rw [if_pos q1]; exact q1
    · rw [if_pos q0]; exact q0
  rw [hcol _ hc3, ht]
  have i13 : rw3 m r (col1 (rw3 m r)) * (tr3 x - 3 * z) = 0 ↔ tr3 x - 2 * z = z := by
    constructor
    · intro q
      rcases Int.mul_eq_zero.mp q with w | w
      · exact absurd w hcn
      · omega
    · intro q
      rw [show tr3 x - 3 * z = 0 by omega, Int.mul_zero]
  by_cases k13 : tr3 x - 2 * z = z
  · rw [if_pos (i13.mpr k13), if_pos k13]
  rw [if_neg (fun q => k13 (i13.mp q)), if_neg k13]
  have hx : ∀ i, i < 9 → x i = m i + (if i % 4 = 0 then z else 0) := fun i hi => by
    rw [← hm]
    unfold lss
    omega
  -- the square
  have hsq : ∀ a b, a < 3 → b < 3 → mul9 m m (3 * a + b) = (m 0 + m 4 + m 8) * m (3 * a + b) := by
    intro a b ha hb
    have e0 := hmin a 0 0 b ha (by omega) (by omega) hb
    have e1 := hmin a 1 1 b ha (by omega) (by omega) hb
    have e2 := hmin a 2 2 b ha (by omega) (by omega) hb
    simp only [Nat.reduceMul, Nat.reduceAdd, Nat.zero_add, Nat.add_zero] at e0 e1 e2
    unfold mul9
    rw [show (3 * a + b) / 3 = a by omega, show (3 * a + b) % 3 = b by omega, Int.add_mul, Int.add_mul]
    grind
  have hx2 : ∀ i, i < 9 → mul9 x x i = (tr3 x - z) * m i + (if i % 4 = 0 then z * z else 0) := by
    intro i hi
    have h9 := hsq (i / 3) (i % 3) (by omega) (by omega)
    rw [show 3 * (i / 3) + i % 3 = i by omega, ht] at h9
    have hx0 := hx 0 (by omega)
    have hx1 := hx 1 (by omega)
    have hx2 := hx 2 (by omega)
    have hx3 := hx 3 (by omega)
    have hx4 := hx 4 (by omega)
    have hx5 := hx 5 (by omega)
    have hx6 := hx 6 (by omega)
    have hx7 := hx 7 (by omega)
    have hx8 := hx 8 (by omega)
    simp at hx0 hx1 hx2 hx3 hx4 hx5 hx6 hx7 hx8
    have : mul9 x x i = mul9 m m i + 2 * z * m i + (if i % 4 = 0 then z * z else 0) := by
      rcases (show i = 0 ∨ i = 1 ∨ i = 2 ∨ i = 3 ∨ i = 4 ∨ i = 5 ∨ i = 6 ∨ i = 7 ∨ i = 8 by omega) with rfl | rfl | rfl | rfl | rfl | rfl | rfl | rfl | rfl <;> simp only [mul9, Nat.reduceDiv, Nat.reduceMod, Nat.reduceMul, Nat.reduceAdd, hx0, hx1, hx2, hx3, hx4, hx5, hx6, hx7, hx8] <;> simp <;> grind
    rw [this, h9]
    generalize (if i % 4 = 0 then z * z else 0) = w
    grind
  have i14 : all9 (mul9 x x) ↔ tr3 x - 2 * z = - z := by
    constructor
    · rintro ⟨s0, s4, s1, s2, s3, s5, s6, s7⟩
      rw [hx2 0 (by omega), hx2 4 (by omega)] at s0
      rw [hx2 4 (by omega), hx2 8 (by omega)] at s4
      rw [hx2 1 (by omega)] at s1
      rw [hx2 2 (by omega)] at s2
      rw [hx2 3 (by omega)] at s3
      rw [hx2 5 (by omega)] at s5
      rw [hx2 6 (by omega)] at s6
      rw [hx2 7 (by omega)] at s7
      simp at s0 s4 s1 s2 s3 s5 s6 s7
      apply Classical.byContradiction
      intro hc
      have hk : tr3 x - z ≠ 0 := by omega
      have kz : ∀ w : Int, (tr3 x - z) * w = 0 → w = 0 := fun w q => (Int.mul_eq_zero.mp q).resolve_left hk
      have z1 : m 1 = 0 := kz _ s1
      have z2 : m 2 = 0 := kz _ s2
      have z3 : m 3 = 0 := kz _ s3
      have z5 : m 5 = 0 := kz _ s5
      have z6 : m 6 = 0 := kz _ s6
      have z7 : m 7 = 0 := kz _ s7
      have e04 : m 0 = m 4 := Int.eq_of_mul_eq_mul_left hk (by omega)
      have e48 : m 4 = m 8 := Int.eq_of_mul_eq_mul_left hk (by omega)
      have f := hmin 0 1 0 1 (by omega) (by omega) (by omega) (by omega)
      simp only [Nat.reduceMul, Nat.reduceAdd] at f
      rw [z1, Int.zero_mul, e04] at f
      have z4 : m 4 = 0 := by rcases Int.mul_eq_zero.mp f with q | q <;> exact q
      apply hnz
      have hall : ∀ i, i < 9 → m i = 0 := fun i hi => by
        rcases (show i = 0 ∨ i = 1 ∨ i = 2 ∨ i = 3 ∨ i = 4 ∨ i = 5 ∨ i = 6 ∨ i = 7 ∨ i = 8 by omega) with rfl | rfl | rfl | rfl | rfl | rfl | rfl | rfl | rfl <;> omega
      have : gN (rw3 m r) 3 = gN (fun _ => (0 : Int) * 0) 3 := gN_congr (fun i hi => by
        show m (3 * r + i) = 0 * 0
        rw [hall _ (by omega)]; rfl)
      rw [this, gN_scale]
      simp
    · intro q
      have hk : tr3 x - z = 0 := by omega
      have hx3 : ∀ i, i < 9 → mul9 x x i = (if i % 4 = 0 then z * z else 0) := fun i hi => by rw [hx2 i hi, hk, Int.zero_mul, Int.zero_add]
      exact ⟨by rw [hx3 0 (by omega), hx3 4 (by omega)], by rw [hx3 4 (by omega), hx3 8 (by omega)], by rw [hx3 1 (by omega)]; rfl, by rw [hx3 2 (by omega)]; rfl, by rw [hx3 3 (by omega)]; rfl, by rw [hx3 5 (by omega)]; rfl, by rw [hx3 6 (by omega)]; rfl, by rw [hx3 7 (by omega)]; rfl⟩
  by_cases k14 : all9 (mul9 x x)
  · rw [if_pos k14, if_pos (i14.mp k14)]
  · rw [if_neg k14, if_neg (fun q => k14 (i14.mpr q))]
theorem vl_suc (x : Nat → Int) (d : Nat) (z : Int) (t : Nat) : vl x (d + 1) z t = if det9 (lss x z) = 0 then (if t = 0 then some z else vl x d (z + 1) (t - 1)) else vl x d (z + 1) t := rfl
theorem farv_suc (x : Nat → Int) (d : Nat) (z : Int) : farv x (d + 1) z = if (rkv (lss x z)).1 = 1 then farw x z else farv x d (z + 1) := rfl
theorem rk1_root {x : Nat → Int} {z : Int} (h : (rkv (lss x z)).1 = 1) : det9 (lss x z) = 0 := Classical.byContradiction (fun q => by rw [rkv_3.mpr q] at h; cases h)
theorem far_no (x : Nat → Int) : ∀ (d : Nat) (z : Int), (∀ t w, vl x d z t = some w → (rkv (lss x w)).1 ≠ 1) → farv x d z = 16
  | 0, z, h => rfl
  | d + 1, z, h => by
    have hz : (rkv (lss x z)).1 ≠ 1 := by
      intro q
      exact h 0 z (by rw [vl_suc, if_pos (rk1_root q), if_pos rfl]) q
    rw [farv_suc, if_neg hz]
    refine far_no x d (z + 1) (fun t w hw => ?_)
    by_cases hr : det9 (lss x z) = 0
    · exact h (t + 1) w (by rw [vl_suc, if_pos hr, if_neg (by omega)]; exact hw)
    · exact h t w (by rw [vl_suc, if_neg hr]; exact hw)
theorem far_yes (x : Nat → Int) : ∀ (d : Nat) (z : Int) (t0 : Nat) (w0 : Int), vl x d z t0 = some w0 → (rkv (lss x w0)).1 = 1 → (∀ t w, t < t0 → vl x d z t = some w → (rkv (lss x w)).1 ≠ 1) → farv x d z = farw x w0
  | 0, z, t0, w0, h, _, _ => by cases h
  | d + 1, z, t0, w0, h, h1, h2 => by
    rw [farv_suc]
    rw [vl_suc] at h
    by_cases hr : det9 (lss x z) = 0
    · rw [if_pos hr] at h
      by_cases ht : t0 = 0
      · rw [if_pos ht] at h
        cases h
        rw [if_pos h1]
      · rw [if_neg ht] at h
        have hz := h2 0 z (by omega) (by rw [vl_suc, if_pos hr, if_pos rfl])
        rw [if_neg hz]
        exact far_yes x d (z + 1) (t0 - 1) w0 h h1 (fun t w h3 h4 => h2 (t + 1) w (by omega) (by rw [vl_suc, if_pos hr, if_neg (by omega)]; exact h4))
    · rw [if_neg hr] at h
      rw [if_neg (fun q => hr (rk1_root q))]
      exact far_yes x d (z + 1) t0 w0 h h1 (fun t w h3 h4 => h2 t w h3 (by rw [vl_suc, if_neg hr]; exact h4))
theorem far_eq {x : Nat → Int} (hx : ∀ i, i < 9 → ab (x i) 500) : cpl x 3 0 = farv x 3001 (-1500) := by
  have hv := ovs_vl hx
  have hn : (ovs x).1 ≤ 3 := scn_n (by omega)
  have hiff : ∀ t, t < (ovs x).1 → ((fxb x ((ovs x).2 t)).1 = 1 ↔ (rkv (lss x ((ovs x).2 t))).1 = 1) := by
    intro t ht
    rcases rkv_fxb (ovs_root hx ht) with ⟨a1, a2, -⟩ | ⟨⟨a1, a2, -⟩, -⟩ | ⟨a1, a2⟩ <;> rw [a1, a2] <;> decide
  have yes : ∀ t, t < (ovs x).1 → (fxb x ((ovs x).2 t)).1 = 1 → (∀ s, s < t → ¬ (s < (ovs x).1 ∧ (fxb x ((ovs x).2 s)).1 = 1)) → farv x 3001 (-1500) = cpw x ((ovs x).2 t) := by
    intro t ht h1 hno
    have hr := (hiff t ht).mp h1
    rw [far_yes x 3001 (-1500) t ((ovs x).2 t) (by rw [hv, if_pos ht]) hr (fun s w hs hw q => ?_), far_w hr (ovs_root hx ht)]
    rw [hv, if_pos (by omega)] at hw
    cases hw
    exact hno s hs ⟨by omega, (hiff s (by omega)).mpr q⟩
  by_cases c0 : 0 < (ovs x).1 ∧ (fxb x ((ovs x).2 0)).1 = 1
  · rw [cpl_yes (d := 2) (k := 0) c0, yes 0 c0.1 c0.2 (fun s hs => by omega)]
  rw [cpl_no (d := 2) (k := 0) c0]
  by_cases c1 : 0 + 1 < (ovs x).1 ∧ (fxb x ((ovs x).2 (0 + 1))).1 = 1
  · rw [cpl_yes (d := 1) (k := 0 + 1) c1, yes (0 + 1) c1.1 c1.2 (fun s hs => by
      have : s = 0 := by omega
      rw [this]; exact c0)]
  rw [cpl_no (d := 1) (k := 0 + 1) c1]
  by_cases c2 : 0 + 1 + 1 < (ovs x).1 ∧ (fxb x ((ovs x).2 (0 + 1 + 1))).1 = 1
  · rw [cpl_yes (d := 0) (k := 0 + 1 + 1) c2, yes (0 + 1 + 1) c2.1 c2.2 (fun s hs => by
      rcases (show s = 0 ∨ s = 0 + 1 by omega) with e | e
      · rw [e]; exact c0
      · rw [e]; exact c1)]
  rw [cpl_no (d := 0) (k := 0 + 1 + 1) c2]
  show 16 = _
  refine (far_no x 3001 (-1500) (fun t w hw q => ?_)).symm
  rw [hv] at hw
  by_cases ht : t < (ovs x).1
  · rw [if_pos ht] at hw
    cases hw
    have hf := (hiff t ht).mpr q
    rcases (show t = 0 ∨ t = 0 + 1 ∨ t = 0 + 1 + 1 by omega) with e | e | e
    · rw [e] at ht hf; exact c0 ⟨ht, hf⟩
    · rw [e] at ht hf; exact c1 ⟨ht, hf⟩
    · rw [e] at ht hf; exact c2 ⟨ht, hf⟩
  · rw [if_neg ht] at hw
    cases hw
theorem kd_eq {x : Nat → Int} (hx : ∀ i, i < 9 → ab (x i) 500) : kdc x = kdv x := by
  unfold kdc kdv farP
  simp only [decide_eq_true_eq]
  by_cases h9 : all9 x
  · rw [if_pos h9, if_pos ⟨h9.2.2.2.2.2.2.1, h9.2.2.2.2.2.2.2⟩]
    obtain ⟨a, b, c, d, e, f, g, h⟩ := h9
    unfold caff
    rw [if_pos ⟨a, by omega⟩]
    unfold clik
    rw [if_pos ⟨c, by omega⟩, if_pos ⟨a, b, c, d, e, f, g, h⟩]
  rw [if_neg h9]
  by_cases h6 : x 6 = 0 ∧ x 7 = 0
  · rw [if_pos h6, if_pos h6]
    exact flat_eq h9 h6.1 h6.2
  · rw [if_neg h6, if_neg h6]
    exact far_eq hx
theorem kind_eq {S : SS} (hB : mapB S) (m : Int) : spc_kind S m = sp_kind S m := by
  unfold spc_kind sp_kind
  by_cases h : 0 ≤ m ∧ m < S.2.1.1
  · rw [if_pos h, if_pos h, kd_eq (fun i hi => hB m.toNat i (by omega) hi)]
  · rw [if_neg h, if_neg h]
