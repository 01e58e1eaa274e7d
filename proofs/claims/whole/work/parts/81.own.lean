/-! own numbers: the class's and the reference's -/
theorem lss_det (x : Nat → Int) (z : Int) : det9 (lss x z) = det9 x - chrE x z := by
  simp only [det9, lss, chrE, tr3, adj9, Nat.reduceDiv, Nat.reduceMod, Nat.reduceMul, Nat.reduceAdd]
  simp
  grind
theorem root_iff {x : Nat → Int} {z : Int} : chrE x z = det9 x ↔ det9 (lss x z) = 0 := by
  rw [lss_det]
  omega
theorem four_roots {a b c z1 z2 z3 z4 : Int} (h1 : ((z1 - a) * z1 + b) * z1 = c) (h2 : ((z2 - a) * z2 + b) * z2 = c) (h3 : ((z3 - a) * z3 + b) * z3 = c) (h4 : ((z4 - a) * z4 + b) * z4 = c) (l1 : z1 < z2) (l2 : z2 < z3) (l3 : z3 < z4) : False := by
  have div : ∀ u w : Int, ((u - a) * u + b) * u = c → ((w - a) * w + b) * w = c → u < w → u * u + u * w + w * w - a * (u + w) + b = 0 := by
    intro u w hu hw huw
    have : (u - w) * (u * u + u * w + w * w - a * (u + w) + b) = 0 := by grind
    rcases Int.mul_eq_zero.mp this with q | q
    · omega
    · exact q
  have e12 := div z1 z2 h1 h2 l1
  have e13 := div z1 z3 h1 h3 (by omega)
  have e14 := div z1 z4 h1 h4 (by omega)
  have f1 : (z2 - z3) * (z1 + z2 + z3 - a) = 0 := by grind
  have f2 : (z2 - z4) * (z1 + z2 + z4 - a) = 0 := by grind
  rcases Int.mul_eq_zero.mp f1 with q | q
  · omega
  · rcases Int.mul_eq_zero.mp f2 with q2 | q2
    · omega
    · omega
theorem sdd {a0 a1 a2 b0 b1 b2 c0 c1 c2 : Int} (ha : a1.natAbs + a2.natAbs < a0.natAbs) (hb : b0.natAbs + b2.natAbs < b1.natAbs) (hc : c0.natAbs + c1.natAbs < c2.natAbs) : a0 * (b1 * c2 - b2 * c1) - a1 * (b0 * c2 - b2 * c0) + a2 * (b0 * c1 - b1 * c0) ≠ 0 := by
  intro h
  have key : ∀ B0 B1 B2 C0 C1 C2 : Nat, B0 + B2 < B1 → C0 + C1 < C2 → B0 * C2 + B2 * C0 + B2 * C1 < B1 * C2 ∧ B0 * C1 + B1 * C0 + B2 * C1 < B1 * C2 := by
    intro B0 B1 B2 C0 C1 C2 h1 h2
    obtain ⟨k, rfl⟩ : ∃ k, B1 = B0 + B2 + 1 + k := ⟨B1 - (B0 + B2 + 1), by omega⟩
    obtain ⟨l, rfl⟩ : ∃ l, C2 = C0 + C1 + 1 + l := ⟨C2 - (C0 + C1 + 1), by omega⟩
    simp only [Nat.add_mul, Nat.mul_add]
    omega
  obtain ⟨k1, k2⟩ := key b0.natAbs b1.natAbs b2.natAbs c0.natAbs c1.natAbs c2.natAbs hb hc
  have m1 := Int.natAbs_mul b1 c2
  have m2 := Int.natAbs_mul b2 c1
  have m3 := Int.natAbs_mul b0 c2
  have m4 := Int.natAbs_mul b2 c0
  have m5 := Int.natAbs_mul b0 c1
  have m6 := Int.natAbs_mul b1 c0
  have n1 : (b0 * c2 - b2 * c0).natAbs ≤ (b1 * c2 - b2 * c1).natAbs := by omega
  have n2 : (b0 * c1 - b1 * c0).natAbs ≤ (b1 * c2 - b2 * c1).natAbs := by omega
  have n3 : 0 < (b1 * c2 - b2 * c1).natAbs := by omega
  generalize b1 * c2 - b2 * c1 = d1 at *
  generalize b0 * c2 - b2 * c0 = d2 at *
  generalize b0 * c1 - b1 * c0 = d3 at *
  have q1 := Int.natAbs_mul a0 d1
  have q2 := Int.natAbs_mul a1 d2
  have q3 := Int.natAbs_mul a2 d3
  have r2 := Nat.mul_le_mul_left a1.natAbs n1
  have r3 := Nat.mul_le_mul_left a2.natAbs n2
  have r1 := Nat.mul_lt_mul_of_pos_right ha n3
  rw [Nat.add_mul] at r1
  omega
theorem wmx_ge {x : Nat → Int} {i : Nat} : ∀ {n : Nat}, i < n → rsum x i ≤ wmx x n
  | 0, h => by omega
  | n + 1, h => by
    unfold wmx
    by_cases e : i = n
    · subst e
      split <;> omega
    · have := wmx_ge (x := x) (i := i) (n := n) (by omega)
      split <;> omega
theorem root_in {x : Nat → Int} {z : Int} (h : det9 (lss x z) = 0) : -(wmx x 3) ≤ z ∧ z ≤ wmx x 3 := by
  apply Classical.byContradiction
  intro hc
  have g0 := wmx_ge (x := x) (i := 0) (n := 3) (by omega)
  have g1 := wmx_ge (x := x) (i := 1) (n := 3) (by omega)
  have g2 := wmx_ge (x := x) (i := 2) (n := 3) (by omega)
  unfold rsum at g0 g1 g2
  simp only [Nat.reduceMul, Nat.reduceAdd] at g0 g1 g2
  refine sdd (a0 := x 0 - z) (a1 := x 1) (a2 := x 2) (b0 := x 3) (b1 := x 4 - z) (b2 := x 5) (c0 := x 6) (c1 := x 7) (c2 := x 8 - z) (by omega) (by omega) (by omega) ?_
  have e : det9 (lss x z) = (x 0 - z) * ((x 4 - z) * (x 8 - z) - x 5 * x 7) - x 1 * (x 3 * (x 8 - z) - x 5 * x 6) + x 2 * (x 3 * x 7 - (x 4 - z) * x 6) := by
    simp only [det9, lss]
    simp
  rw [← e]
  exact h
def rc (x : Nat → Int) : Nat → Int → Nat
  | 0, _ => 0
  | d + 1, z => (if det9 (lss x z) = 0 then 1 else 0) + rc x d (z + 1)
theorem scn_vl (x : Nat → Int) : ∀ (d : Nat) (z : Int) (n : Nat) (v : Nat → Int), n + rc x d z ≤ 3 → (scn x d z n v).1 = n + rc x d z ∧ (∀ i, i < n → (scn x d z n v).2 i = v i) ∧ ∀ t, vl x d z t = if t < rc x d z then some ((scn x d z n v).2 (n + t)) else none
  | 0, z, n, v, h => ⟨rfl, fun _ _ => rfl, fun t => rfl⟩
  | d + 1, z, n, v, h => by
    unfold rc at h ⊢
    unfold scn vl
    by_cases hr : det9 (lss x z) = 0
    · rw [if_pos hr] at h ⊢
      obtain ⟨i1, i2, i3⟩ := scn_vl x d (z + 1) (n + 1) (fun i => if i = n then z else v i) (by omega)
      rw [if_neg (by omega), if_pos (root_iff.mpr hr)]
      refine ⟨by rw [i1]; omega, fun i hi => ?_, fun t => ?_⟩
      · rw [i2 i (by omega), if_neg (by omega)]
      · rw [if_pos hr]
        by_cases ht : t = 0
        · subst ht
          rw [if_pos rfl, if_pos (by omega), i2 (n + 0) (by omega), if_pos (by omega)]
        · rw [if_neg ht, i3 (t - 1)]
          by_cases hl : t - 1 < rc x d (z + 1)
          · rw [if_pos hl, if_pos (by omega), show n + 1 + (t - 1) = n + t by omega]
          · rw [if_neg hl, if_neg (by omega)]
    · rw [if_neg hr] at h ⊢
      obtain ⟨i1, i2, i3⟩ := scn_vl x d (z + 1) n v (by omega)
      rw [Nat.zero_add, if_neg (fun q => hr (root_iff.mp q))]
      by_cases h3 : 3 ≤ n
      · rw [if_pos h3]
        have h0 : rc x d (z + 1) = 0 := by omega
        rw [h0]
        refine ⟨rfl, fun _ _ => rfl, fun t => ?_⟩
        rw [if_neg hr, i3 t, h0, if_neg (by omega), if_neg (by omega)]
      · rw [if_neg h3]
        refine ⟨i1, i2, fun t => ?_⟩
        rw [if_neg hr]
        exact i3 t
theorem rc_split (x : Nat → Int) : ∀ (d : Nat) (z : Int), 1 ≤ rc x d z → ∃ (w : Int) (d2 : Nat), z ≤ w ∧ det9 (lss x w) = 0 ∧ rc x d z = 1 + rc x d2 (w + 1)
  | 0, z, h => by simp [rc] at h
  | d + 1, z, h => by
    have e : rc x (d + 1) z = (if det9 (lss x z) = 0 then 1 else 0) + rc x d (z + 1) := rfl
    rw [e] at h ⊢
    by_cases hr : det9 (lss x z) = 0
    · rw [if_pos hr]
      exact ⟨z, d, by omega, hr, rfl⟩
    · rw [if_neg hr, Nat.zero_add] at h ⊢
      obtain ⟨w, d2, h1, h2, h3⟩ := rc_split x d (z + 1) h
      exact ⟨w, d2, by omega, h2, h3⟩
theorem rc_3 (x : Nat → Int) (d : Nat) (z : Int) : rc x d z ≤ 3 := by
  apply Classical.byContradiction
  intro hc
  obtain ⟨w1, d1, a1, r1, e1⟩ := rc_split x d z (by omega)
  obtain ⟨w2, d2, a2, r2, e2⟩ := rc_split x d1 (w1 + 1) (by omega)
  obtain ⟨w3, d3, a3, r3, e3⟩ := rc_split x d2 (w2 + 1) (by omega)
  obtain ⟨w4, d4, a4, r4, e4⟩ := rc_split x d3 (w3 + 1) (by omega)
  exact four_roots (root_iff.mpr r1) (root_iff.mpr r2) (root_iff.mpr r3) (root_iff.mpr r4) (by omega) (by omega) (by omega)
theorem vl_skip (x : Nat → Int) (d t : Nat) : ∀ (a : Nat) (z : Int), (∀ y, z ≤ y → y < z + a → det9 (lss x y) ≠ 0) → vl x (a + d) z t = vl x d (z + a) t
  | 0, z, h => by rw [Nat.zero_add, show z + ((0 : Nat) : Int) = z by omega]
  | a + 1, z, h => by
    rw [show a + 1 + d = (a + d) + 1 by omega]
    have e : vl x ((a + d) + 1) z t = if det9 (lss x z) = 0 then (if t = 0 then some z else vl x (a + d) (z + 1) (t - 1)) else vl x (a + d) (z + 1) t := rfl
    rw [e, if_neg (h z (by omega) (by omega)), vl_skip x d t a (z + 1) (fun y h1 h2 => h y (by omega) (by omega)), show z + 1 + (a : Int) = z + ((a + 1 : Nat) : Int) by omega]
theorem vl_none (x : Nat → Int) : ∀ (d : Nat) (z : Int) (t : Nat), (∀ y, z ≤ y → y < z + d → det9 (lss x y) ≠ 0) → vl x d z t = none
  | 0, z, t, h => rfl
  | d + 1, z, t, h => by
    unfold vl
    rw [if_neg (h z (by omega) (by omega)), vl_none x d (z + 1) t (fun y h1 h2 => h y (by omega) (by omega))]
theorem vl_cut (x : Nat → Int) (e : Nat) : ∀ (d : Nat) (z : Int) (t : Nat), (∀ y, z + d ≤ y → y < z + d + e → det9 (lss x y) ≠ 0) → vl x (d + e) z t = vl x d z t
  | 0, z, t, h => by
    rw [Nat.zero_add, vl_none x e z t (fun y h1 h2 => h y (by omega) (by omega))]
    rfl
  | d + 1, z, t, h => by
    rw [show d + 1 + e = (d + e) + 1 by omega]
    unfold vl
    have ih := fun t => vl_cut x e d (z + 1) t (fun y h1 h2 => h y (by omega) (by omega))
    rw [ih, ih]
theorem ovs_vl {x : Nat → Int} (hx : ∀ i, i < 9 → ab (x i) 500) (t : Nat) : vl x 3001 (-1500) t = if t < (ovs x).1 then some ((ovs x).2 t) else none := by
  obtain ⟨w0, w1⟩ := wmx_bd hx (Nat.le_refl 3)
  have hm : mst x = wmx x 3 := by unfold mst; rw [if_neg (by omega)]
  obtain ⟨k, hk⟩ : ∃ k : Nat, wmx x 3 = k := ⟨(wmx x 3).toNat, by omega⟩
  have hno : ∀ y : Int, y < -(k : Int) ∨ (k : Int) < y → det9 (lss x y) ≠ 0 := by
    intro y hy h
    have := root_in h
    omega
  have e1 : vl x 3001 (-1500) t = vl x (2 * k + 1) (-(k : Int)) t := by
    rw [show 3001 = (1500 - k) + ((2 * k + 1) + (1500 - k)) by omega, vl_skip x _ t (1500 - k) (-1500) (fun y h1 h2 => hno y (by omega)), show (-1500 : Int) + ((1500 - k : Nat) : Int) = -(k : Int) by omega]
    exact vl_cut x (1500 - k) (2 * k + 1) (-(k : Int)) t (fun y h1 h2 => hno y (by omega))
  have e2 : ovs x = scn x (2 * k + 1) (-(k : Int)) 0 (fun _ => 0) := by
    unfold ovs
    rw [hm, hk, show (2 * (k : Int) + 1).toNat = 2 * k + 1 by omega]
  have hv := scn_vl x (2 * k + 1) (-(k : Int)) 0 (fun _ => 0) (by have := rc_3 x (2 * k + 1) (-(k : Int)); omega)
  rw [e1, e2, hv.2.2 t, hv.1, Nat.zero_add, Nat.zero_add]
theorem ovs_root {x : Nat → Int} (hx : ∀ i, i < 9 → ab (x i) 500) {t : Nat} (ht : t < (ovs x).1) : det9 (lss x ((ovs x).2 t)) = 0 := by
  have h := ovs_vl hx t
  rw [if_pos ht] at h
  exact (vl_in h).2.2
theorem vlI_ovs {x : Nat → Int} (hx : ∀ i, i < 9 → ab (x i) 500) (k : Int) : vlI x k = if 0 ≤ k ∧ k < (ovs x).1 then (ovs x).2 k.toNat else -9223372036854775808 := by
  unfold vlI
  by_cases h0 : 0 ≤ k
  · rw [if_pos h0, ovs_vl hx]
    by_cases h1 : k < (ovs x).1
    · rw [if_pos (by omega), if_pos ⟨h0, h1⟩]
    · rw [if_neg (by omega), if_neg (by omega)]
  · rw [if_neg h0, if_neg (by omega)]
def mapB (S : SS) : Prop := ∀ k i, k < S.2.1.1 → i < 9 → ab (S.2.1.2 k i) 500
theorem own_eq {S : SS} (hB : mapB S) (m k : Int) : spc_own S m k = sp_own S m k := by
  unfold spc_own sp_own
  by_cases h : 0 ≤ m ∧ m < S.2.1.1
  · rw [if_pos h, if_pos h, vlI_ovs (fun i hi => hB m.toNat i (by omega) hi)]
  · rw [if_neg h, if_neg h]
/-! what stays -/
theorem adj_col (m : Nat → Int) (r i : Nat) (hr : r < 3) (hi : i < 3) : cr3 m r i = rw3 (tr9 (adj9 m)) ((r + 2) % 3) i := by
  rcases (show r = 0 ∨ r = 1 ∨ r = 2 by omega) with rfl | rfl | rfl <;> rcases (show i = 0 ∨ i = 1 ∨ i = 2 by omega) with rfl | rfl | rfl <;> simp only [cr3, crs, rw3, tr9, adj9, Nat.reduceDiv, Nat.reduceMod, Nat.reduceMul, Nat.reduceAdd] <;> grind
theorem adj_minor {m : Nat → Int} (hd : det9 m = 0) (a b c d : Nat) (ha : a < 3) (hb : b < 3) (hc : c < 3) (hd2 : d < 3) : tr9 (adj9 m) (3 * a + c) * tr9 (adj9 m) (3 * b + d) = tr9 (adj9 m) (3 * a + d) * tr9 (adj9 m) (3 * b + c) := by
  unfold det9 at hd
  rcases (show a = 0 ∨ a = 1 ∨ a = 2 by omega) with rfl | rfl | rfl <;> rcases (show b = 0 ∨ b = 1 ∨ b = 2 by omega) with rfl | rfl | rfl <;> rcases (show c = 0 ∨ c = 1 ∨ c = 2 by omega) with rfl | rfl | rfl <;> rcases (show d = 0 ∨ d = 1 ∨ d = 2 by omega) with rfl | rfl | rfl <;> first | rfl | exact Int.mul_comm _ _ | (simp only [tr9, adj9, Nat.reduceDiv, Nat.reduceMod, Nat.reduceMul, Nat.reduceAdd]; grind)
