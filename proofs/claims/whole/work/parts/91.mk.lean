/-! make: the class's and the reference's -/
def rowP (S : SO) (V : SV) : Prop := V.1 ≤ 8 ∧ ∀ i, i < V.1 → V.2 i < S.1
def objB (S : SO) : Prop := ∀ k i, k < S.1 → i < 3 → ab (S.2.2 k i) 500
def agrO (S : SO) (V : SV) (q : Nat → Nat → Int) : Prop := ∀ k i, k < V.1 → i < 3 → q k i = gq S V k i
theorem giv_iff {S : SO} {V : SV} {n s : Nat} : givB S V n s = true ↔ V.1 = n ∧ ∀ i, i < n → gs S V i = s := by
  refine ⟨givB_1, fun h => ?_⟩
  unfold givB
  rw [decide_eq_true h.1, Bool.true_and]
  exact alB_of (fun i hi => decide_eq_true (h.2 i (by rw [← h.1]; exact hi)))
theorem all_iff {S : SO} {V : SV} {s m : Nat} : cAll V.1 (gs S V) s m = true ↔ V.1 = m ∧ ∀ i, i < m → gs S V i = s := by
  refine ⟨all1, fun h => ?_⟩
  unfold cAll
  rw [decide_eq_true h.1, Bool.and_true]
  exact alB_of (fun i hi => decide_eq_true (h.2 i (by rw [← h.1]; exact hi)))
theorem near_iff {S : SO} {V : SV} {q : Nat → Nat → Int} (ha : agrO S V q) {m : Nat} : cNear V.1 (gs S V) q m = true ↔ V.1 = m ∧ (∀ i, i < m → gs S V i = 0) ∧ ∀ i, i < m → gq S V i 2 ≠ 0 := by
  constructor
  · intro h
    obtain ⟨h1, h2, h3⟩ := near1 h
    exact ⟨h1, h2, fun i hi => by rw [← ha i 2 (by omega) (by omega)]; exact h3 i hi⟩
  · rintro ⟨h1, h2, h3⟩
    unfold cNear
    rw [all_iff.mpr ⟨h1, h2⟩, Bool.and_true]
    refine alB_of (fun i hi => ?_)
    have := h3 i (by omega)
    rw [← ha i 2 hi (by omega)] at this
    simp [this]
theorem far_p {S : SO} {V : SV} {i : Nat} (h : gs S V i = 0) : farB S V i = decide (gq S V i 2 = 0) := by
  unfold farB
  rw [if_neg (by omega)]
theorem far_l {S : SO} {V : SV} {i : Nat} (h : gs S V i = 1) : farB S V i = decide (gq S V i 0 = 0 ∧ gq S V i 1 = 0) := by
  unfold farB
  rw [if_pos h]
theorem simT_congr {p q : Nat → Int} (h : ∀ i, i < 3 → p i = q i) (k : Nat) (u v : Int) : simT k p u v = simT k q u v := by
  unfold simT
  rw [h 0 (by omega), h 1 (by omega), h 2 (by omega)]
theorem mirT_congr {p q : Nat → Int} (h : ∀ i, i < 3 → p i = q i) : mirT p = mirT q := by
  unfold mirT
  rw [h 0 (by omega), h 1 (by omega), h 2 (by omega)]
theorem gliO_congr {p q : Nat → Int} (h : ∀ i, i < 3 → p i = q i) (u v : Int) : gliO p u v = gliO q u v := by
  unfold gliO
  rw [h 0 (by omega), h 1 (by omega)]
theorem gli_1 (q x : Nat → Int) (i : Nat) (hi : i < 9) : mul9 (gliO q 0 1) x i = x i := by
  rcases (show i = 0 ∨ i = 1 ∨ i = 2 ∨ i = 3 ∨ i = 4 ∨ i = 5 ∨ i = 6 ∨ i = 7 ∨ i = 8 by omega) with rfl | rfl | rfl | rfl | rfl | rfl | rfl | rfl | rfl <;> simp [mul9, gliO, t9]
theorem sq_iff {a b : Int} : ¬ (a * a + b * b = 0) ↔ ¬ (a = 0 ∧ b = 0) := ⟨fun h q => h (by rw [q.1, q.2]; rfl), fun h => sq_pos h⟩
/-- one answer: made, or not -/
theorem mk_split {M : SM} {P : Prop} [Decidable P] {b : Bool} (h : P ↔ b = true) {X Y : Int × SM} (hXY : b = true → X = Y) : (if b = true then X else (-3, M)) = (if (if P then (0 : Int) else -3) = 0 then Y else ((if P then (0 : Int) else -3), M)) := by
  by_cases hb : b = true
  · rw [if_pos hb, if_pos (h.mpr hb), if_pos rfl, hXY hb]
  · have hp : ¬ P := fun q => hb (h.mp q)
    rw [if_neg hb, if_neg hp, if_neg (by decide)]
theorem mk_near {S : SO} {V : SV} {q : Nat → Nat → Int} (ha : agrO S V q) : cNear V.1 (gs S V) q 1 = true ↔ (givB S V 1 0 && !farB S V 0) = true := by
  rw [near_iff ha, Bool.and_eq_true, giv_iff]
  constructor
  · rintro ⟨h1, h2, h3⟩
    refine ⟨⟨h1, h2⟩, ?_⟩
    rw [far_p (h2 0 (by omega))]
    simp [h3 0 (by omega)]
  · rintro ⟨⟨h1, h2⟩, h3⟩
    rw [far_p (h2 0 (by omega))] at h3
    refine ⟨h1, h2, fun i hi => ?_⟩
    have : i = 0 := by omega
    subst this
    simpa using h3
theorem mk_line {S : SO} {V : SV} {q : Nat → Nat → Int} (ha : agrO S V q) : (cAll V.1 (gs S V) 1 1 = true ∧ ¬ q 0 0 * q 0 0 + q 0 1 * q 0 1 = 0) ↔ mirB S V = true := by
  unfold mirB
  rw [all_iff, Bool.and_eq_true, giv_iff, sq_iff]
  constructor
  · rintro ⟨⟨h1, h2⟩, h3⟩
    refine ⟨⟨h1, h2⟩, ?_⟩
    rw [far_l (h2 0 (by omega)), ← ha 0 0 (by omega) (by omega), ← ha 0 1 (by omega) (by omega), decide_eq_false h3]
    rfl
  · rintro ⟨⟨h1, h2⟩, h3⟩
    rw [far_l (h2 0 (by omega)), ← ha 0 0 (by omega) (by omega), ← ha 0 1 (by omega) (by omega)] at h3
    refine ⟨⟨h1, h2⟩, nb1 h3⟩
theorem mk_simple {S : SO} {V : SV} {q : Nat → Nat → Int} (ha : agrO S V q) (M : SM) {k : Nat} (hk : ¬ (4 < k ∧ k < 8)) (hk8 : k ≤ 8) (u v : Int) : mkM S V M k u v = if bldC V.1 (gs S V) q k u v = 0 then addM M (bldT q k u v) else (bldC V.1 (gs S V) q k u v, M) := by
  unfold mkM
  simp only [if_neg hk]
  have h0 : 1 ≤ V.1 → ∀ i, i < 3 → q 0 i = gq S V 0 i := fun h i hi => ha 0 i (by omega) hi
  rcases (show k = 0 ∨ k = 1 ∨ k = 2 ∨ k = 3 ∨ k = 4 ∨ k = 8 by omega) with rfl | rfl | rfl | rfl | rfl | rfl
  · refine mk_split (P := cNear V.1 (gs S V) q 1 = true) (b := mkB S V 0 u v) ?_ (fun hb => ?_)
    · rw [mk_near ha]
      show _ ↔ ((givB S V 1 0 && !farB S V 0) && true) = true
      rw [Bool.and_true]
    · have hv : V.1 = 1 := by
        have : ((givB S V 1 0 && !farB S V 0) && true) = true := hb
        rw [Bool.and_true, ← mk_near ha, near_iff ha] at this
        exact this.1
      refine addM_congr (fun i hi => ?_) M
      show simT 0 (gq S V 0) u v i = simT 0 (q 0) 0 0 i
      rw [simT_congr (h0 (by omega))]
      rfl
  · refine mk_split (P := cNear V.1 (gs S V) q 1 = true ∧ ¬ (u = 0 ∧ v = 0)) (b := mkB S V 1 u v) ?_ (fun hb => ?_)
    · rw [mk_near ha, ← sq_iff]
      show _ ↔ ((givB S V 1 0 && !farB S V 0) && decide (¬ u * u + v * v = 0)) = true
      simp only [Bool.and_eq_true, decide_eq_true_eq]
    · have hv : V.1 = 1 := by
        have : ((givB S V 1 0 && !farB S V 0) && decide (¬ u * u + v * v = 0)) = true := hb
        rw [Bool.and_eq_true, ← mk_near ha, near_iff ha] at this
        exact this.1.1
      refine addM_congr (fun i hi => ?_) M
      show simT 1 (gq S V 0) u v i = simT 1 (q 0) u v i
      rw [simT_congr (h0 (by omega))]
  · refine mk_split (P := cAll V.1 (gs S V) 1 1 = true ∧ ¬ (1 : Int) = 0 ∧ ¬ q 0 0 * q 0 0 + q 0 1 * q 0 1 = 0) (b := mkB S V 2 u v) ?_ (fun hb => ?_)
    · show _ ↔ mirB S V = true
      rw [← mk_line ha]
      exact ⟨fun h => ⟨h.1, h.2.2⟩, fun h => ⟨h.1, by decide, h.2⟩⟩
    · have hv : V.1 = 1 := by
        have : mirB S V = true := hb
        rw [← mk_line ha, all_iff] at this
        exact this.1.1
      refine addM_congr (fun i hi => ?_) M
      show mirT (gq S V 0) i = mul9 (gliO (q 0) 0 1) (mirT (q 0)) i
      rw [gli_1 _ _ i hi, mirT_congr (h0 (by omega))]
  · refine mk_split (P := cNear V.1 (gs S V) q 1 = true ∧ ¬ u = 0 ∧ ¬ v = 0) (b := mkB S V 3 u v) ?_ (fun hb => ?_)
    · rw [mk_near ha]
      show _ ↔ ((givB S V 1 0 && !farB S V 0) && decide (¬ u = 0 ∧ ¬ v = 0)) = true
      simp only [Bool.and_eq_true, decide_eq_true_eq]
    · have hv : V.1 = 1 := by
        have : ((givB S V 1 0 && !farB S V 0) && decide (¬ u = 0 ∧ ¬ v = 0)) = true := hb
        rw [Bool.and_eq_true, ← mk_near ha, near_iff ha] at this
        exact this.1.1
      refine addM_congr (fun i hi => ?_) M
      show simT 3 (gq S V 0) u v i = simT 3 (q 0) u v i
      rw [simT_congr (h0 (by omega))]
  · refine mk_split (P := cAll V.1 (gs S V) 1 1 = true ∧ ¬ v = 0 ∧ ¬ q 0 0 * q 0 0 + q 0 1 * q 0 1 = 0) (b := mkB S V 4 u v) ?_ (fun hb => ?_)
    · show _ ↔ (mirB S V && decide (¬ v = 0)) = true
      rw [Bool.and_eq_true, ← mk_line ha, decide_eq_true_eq]
      exact ⟨fun h => ⟨⟨h.1, h.2.2⟩, h.2.1⟩, fun h => ⟨h.1.1, h.2, h.1.2⟩⟩
    · have hv : V.1 = 1 := by
        have : (mirB S V && decide (¬ v = 0)) = true := hb
        rw [Bool.and_eq_true, ← mk_line ha, all_iff] at this
        exact this.1.1.1
      refine addM_congr (fun i hi => ?_) M
      show mul9 (gliO (gq S V 0) u v) (mirT (gq S V 0)) i = mul9 (gliO (q 0) u v) (mirT (q 0)) i
      rw [mirT_congr (h0 (by omega)), gliO_congr (h0 (by omega))]
  · have hdet : V.1 = 3 → ∀ i, i < 9 → q (i / 3) (i % 3) = anyT S V i := fun hv i hi => ha (i / 3) (i % 3) (by omega) (by omega)
    refine mk_split (P := cAll V.1 (gs S V) 1 3 = true ∧ ¬ det9 (fun i => q (i / 3) (i % 3)) = 0) (b := mkB S V 8 u v) ?_ (fun hb => ?_)
    · show _ ↔ (givB S V 3 1 && decide (¬ det9 (anyT S V) = 0)) = true
      rw [Bool.and_eq_true, giv_iff, all_iff, decide_eq_true_eq]
      constructor
      · rintro ⟨h1, h2⟩
        rw [det9_congr (hdet h1.1)] at h2
        exact ⟨h1, h2⟩
      · rintro ⟨h1, h2⟩
        rw [← det9_congr (hdet h1.1)] at h2
        exact ⟨h1, h2⟩
    · have hv : V.1 = 3 := by
        have : (givB S V 3 1 && decide (¬ det9 (anyT S V) = 0)) = true := hb
        rw [Bool.and_eq_true, giv_iff] at this
        exact this.1.1
      exact addM_congr (fun i hi => (hdet hv i hi).symm) M
theorem pts_of {S : SO} {V : SV} (hI : InvO S) (hB : objB S) (hV : rowP S V) {n : Nat} (hn : V.1 = n) (hs : ∀ i, i < n → gs S V i = 0) : ptsP S V n := by
  refine ⟨fun i hi => ?_, fun i j hi hj => hB _ j (hV.2 i (by omega)) hj⟩
  have h := (hI.1 (V.2 i) (hV.2 i (by omega))).2
  have h0 : S.2.1 (V.2 i) = 0 := hs i hi
  rw [h0] at h
  exact h
/-- different points, both near -/
theorem dist_iff {S : SO} {V : SV} (hI : InvO S) (hV : rowP S V) {a b : Nat} (ha : a < V.1) (hb : b < V.1) (sa : gs S V a = 0) (sb : gs S V b = 0) (na : gq S V a 2 ≠ 0) : V.2 a ≠ V.2 b ↔ ¬ (gq S V b 0 * gq S V a 2 - gq S V a 0 * gq S V b 2 = 0 ∧ gq S V b 1 * gq S V a 2 - gq S V a 1 * gq S V b 2 = 0) := by
  constructor
  · rintro h ⟨z1, z2⟩
    obtain ⟨i, hi, hne⟩ := inv_apart hI (V.2 a) (V.2 b) (hV.2 a ha) (hV.2 b hb) h (by have h1 : S.2.1 (V.2 a) = 0 := sa; have h2 : S.2.1 (V.2 b) = 0 := sb; rw [h1, h2]) (by have h1 : S.2.1 (V.2 a) = 0 := sa; omega)
    have e0 : gq S V a = S.2.2 (V.2 a) := rfl
    have e1 : gq S V b = S.2.2 (V.2 b) := rfl
    rw [e0] at z1 z2 na
    rw [e1] at z1 z2
    generalize S.2.2 (V.2 a) = x at *
    generalize S.2.2 (V.2 b) = y at *
    apply hne
    rcases (show i = 0 ∨ i = 1 ∨ i = 2 by omega) with rfl | rfl | rfl <;> simp only [crs, Nat.reduceAdd, Nat.reduceMod]
    · grind
    · grind
    · refine Int.eq_of_mul_eq_mul_left na ?_
      grind
  · intro h q
    apply h
    have e : gq S V a = gq S V b := by unfold gq; rw [q]
    rw [e]
    constructor <;> omega
theorem may_near {S : SO} {V : SV} {k n : Nat} (hk : ¬ k = 7) (hkn : 2 * kn k = n) (hs : ∀ i, i < n → gs S V i = 0) : may1 S V k = true ↔ ∀ i, i < n → gq S V i 2 ≠ 0 := by
  unfold may1
  rw [hkn]
  constructor
  · intro h i hi
    have := alB_all h i hi
    rw [far_p (hs i hi), decide_eq_false hk, Bool.false_or] at this
    exact nb1 this
  · intro h
    refine alB_of (fun i hi => ?_)
    rw [far_p (hs i hi), decide_eq_false hk, Bool.false_or, decide_eq_false (h i hi)]
    rfl
theorem may5_iff {S : SO} {V : SV} : mayB S V 5 = true ↔ (V.1 = 4 ∧ ∀ i, i < 4 → gs S V i = 0) ∧ (∀ i, i < 4 → gq S V i 2 ≠ 0) ∧ V.2 0 ≠ V.2 1 ∧ V.2 2 ≠ V.2 3 := by
  have e : mayB S V 5 = (givB S V 4 0 && ((may1 S V 5 && decide (¬ V.2 0 = V.2 1)) && decide (¬ V.2 2 = V.2 3))) := rfl
  rw [e, Bool.and_eq_true, Bool.and_eq_true, Bool.and_eq_true, giv_iff, decide_eq_true_eq, decide_eq_true_eq]
  constructor
  · rintro ⟨h1, ⟨h2, h3⟩, h4⟩
    exact ⟨h1, (may_near (n := 4) (by decide) rfl h1.2).mp h2, h3, h4⟩
  · rintro ⟨h1, h2, h3, h4⟩
    exact ⟨h1, ⟨(may_near (n := 4) (by decide) rfl h1.2).mpr h2, h3⟩, h4⟩
theorem may6_iff {S : SO} {V : SV} : mayB S V 6 = true ↔ (V.1 = 6 ∧ ∀ i, i < 6 → gs S V i = 0) ∧ (∀ i, i < 6 → gq S V i 2 ≠ 0) ∧ dt9 (gq S V 0) (gq S V 1) (gq S V 2) ≠ 0 ∧ dt9 (gq S V 3) (gq S V 4) (gq S V 5) ≠ 0 := by
  have e : mayB S V 6 = (givB S V 6 0 && ((may1 S V 6 && !inlB S V 0 1 2) && !inlB S V 3 4 5)) := rfl
  rw [e, Bool.and_eq_true, Bool.and_eq_true, Bool.and_eq_true, giv_iff]
  unfold inlB
  constructor
  · rintro ⟨h1, ⟨h2, h3⟩, h4⟩
    exact ⟨h1, (may_near (n := 6) (by decide) rfl h1.2).mp h2, nb1 h3, nb1 h4⟩
  · rintro ⟨h1, h2, h3, h4⟩
    exact ⟨h1, ⟨(may_near (n := 6) (by decide) rfl h1.2).mpr h2, by rw [decide_eq_false h3]; rfl⟩, by rw [decide_eq_false h4]; rfl⟩
theorem may7_iff {S : SO} {V : SV} : mayB S V 7 = true ↔ (V.1 = 8 ∧ ∀ i, i < 8 → gs S V i = 0) ∧ (dt9 (gq S V 0) (gq S V 1) (gq S V 2) ≠ 0 ∧ dt9 (gq S V 0) (gq S V 1) (gq S V 3) ≠ 0 ∧ dt9 (gq S V 0) (gq S V 2) (gq S V 3) ≠ 0 ∧ dt9 (gq S V 1) (gq S V 2) (gq S V 3) ≠ 0) ∧ dt9 (gq S V 4) (gq S V 5) (gq S V 6) ≠ 0 ∧ dt9 (gq S V 4) (gq S V 5) (gq S V 7) ≠ 0 ∧ dt9 (gq S V 4) (gq S V 6) (gq S V 7) ≠ 0 ∧ dt9 (gq S V 5) (gq S V 6) (gq S V 7) ≠ 0 := by
  have e : mayB S V 7 = (givB S V 8 0 && ((((may1 S V 7 && !inlB S V 0 1 2) && (!inlB S V 0 1 3 && (!inlB S V 0 2 3 && !inlB S V 1 2 3))) && !inlB S V 4 5 6) && (!inlB S V 4 5 7 && (!inlB S V 4 6 7 && !inlB S V 5 6 7)))) := rfl
  have hm : may1 S V 7 = true := alB_of (fun i hi => by rw [decide_eq_true rfl, Bool.true_or])
  rw [e, hm, Bool.true_and]
  simp only [Bool.and_eq_true, giv_iff, inlB, Bool.not_eq_true', decide_eq_false_iff_not]
  constructor
  · rintro ⟨h1, ⟨⟨a, b, c, d⟩, f⟩, g, h, i⟩
    exact ⟨h1, ⟨a, b, c, d⟩, f, g, h, i⟩
  · rintro ⟨h1, ⟨a, b, c, d⟩, f, g, h, i⟩
    exact ⟨h1, ⟨⟨a, b, c, d⟩, f⟩, g, h, i⟩
theorem inl0_dt (g : Nat → Nat → Int) (s : Nat) : inl0 g s = dt9 (g s) (g (s + 1)) (g (s + 2)) := by
  unfold inl0 dt3 dt9
  grind
theorem fr_dt (g : Nat → Nat → Int) : frW g (sidF g 0) 0 = dt9 (g 1) (g 2) (g 3) ∧ frW g (sidF g 0) 1 = - dt9 (g 0) (g 2) (g 3) ∧ frW g (sidF g 0) 2 = dt9 (g 0) (g 1) (g 3) := by
  simp only [frW, dt3, dt9, sidF, crs, Nat.reduceAdd, Nat.reduceMod, Nat.zero_add]
  refine ⟨by grind, by grind, by grind⟩
theorem to_dt (g : Nat → Nat → Int) : toW g (sidF g 4) 0 = dt9 (g 5) (g 6) (g 7) ∧ toW g (sidF g 4) 1 = - dt9 (g 4) (g 6) (g 7) ∧ toW g (sidF g 4) 2 = dt9 (g 4) (g 5) (g 7) := by
  simp only [toW, dt3, dt9, sidF, crs, Nat.reduceAdd, Nat.reduceMod]
  refine ⟨by grind, by grind, by grind⟩
theorem row_eq {q g : Nat → Nat → Int} {k : Nat} (h : ∀ i, i < 3 → q k i = g k i) (r : Nat → Int) (i : Nat) : crs (q k) r i = crs (g k) r i := by
  have h1 := Nat.mod_lt (i + 1) (show 0 < 3 by omega)
  have h2 := Nat.mod_lt (i + 2) (show 0 < 3 by omega)
  unfold crs
  rw [h _ h1, h _ h2]
theorem sid_eq {q g : Nat → Nat → Int} {s : Nat} (h : ∀ k i, k < s + 3 → i < 3 → q k i = g k i) : sidF q s = sidF g s := by
  funext k i
  have h1 := Nat.mod_lt (k + 1) (show 0 < 3 by omega)
  have h2 := Nat.mod_lt (k + 2) (show 0 < 3 by omega)
  have i1 := Nat.mod_lt (i + 1) (show 0 < 3 by omega)
  have i2 := Nat.mod_lt (i + 2) (show 0 < 3 by omega)
  unfold sidF crs
  rw [h _ _ (show s + (k + 1) % 3 < s + 3 by omega) i1, h _ _ (show s + (k + 1) % 3 < s + 3 by omega) i2, h _ _ (show s + (k + 2) % 3 < s + 3 by omega) i1, h _ _ (show s + (k + 2) % 3 < s + 3 by omega) i2]
theorem wgt_eq {q g F : Nat → Nat → Int} {w v : Nat → Int} {s : Nat} (h : ∀ k i, k < s + 3 → i < 3 → q k i = g k i) (hw : ∀ i, i < 3 → w i = v i) (n : Nat) (hn : n < 9) : wgt w q F s n = wgt v g F s n := by
  unfold wgt
  rw [h s _ (by omega) (by omega), h (s + 1) _ (by omega) (by omega), h (s + 2) _ (by omega) (by omega), hw 0 (by omega), hw 1 (by omega), hw 2 (by omega)]
theorem mk_by {S : SO} {V : SV} {q : Nat → Nat → Int} (hI : InvO S) (hB : objB S) (hV : rowP S V) (ha : agrO S V q) (M : SM) {k : Nat} (hk : 4 < k ∧ k < 8) (u v : Int) : (mkM S V M k u v = if bldC V.1 (gs S V) q k u v = 0 then addM M (bldT q k u v) else (bldC V.1 (gs S V) q k u v, M)) ∧ (bldC V.1 (gs S V) q k u v = 0 → det9 (bldT q k u v) ≠ 0) := by
  have eM : mkM S V M k u v = if mayB S V k = true then bpy S V M k 3 0 else (-3, M) := by
    have eB : mkB S V k u v = mayB S V k := by
      unfold mkB
      rw [if_neg (show ¬ k = 2 by omega), if_neg (show ¬ k = 4 by omega), if_neg (show ¬ k = 8 by omega), if_neg (show ¬ k < 4 by omega)]
    unfold mkM
    rw [eB, if_pos hk]
  rw [eM]
  rcases (show k = 5 ∨ k = 6 ∨ k = 7 by omega) with rfl | rfl | rfl
  · -- likeness
    have eC : bldC V.1 (gs S V) q 5 u v = if cNear V.1 (gs S V) q 4 = true ∧ ¬ (lfx q = 0 ∧ lfy q = 0) ∧ ¬ (ltx q = 0 ∧ lty q = 0) then 0 else -3 := rfl
    have eT : bldT q 5 u v = clik9 q := rfl
    rw [eC, eT]
    have hq : V.1 = 4 → clik9 q = clik9 (gq S V) ∧ lfx q = lfx (gq S V) ∧ lfy q = lfy (gq S V) ∧ ltx q = ltx (gq S V) ∧ lty q = lty (gq S V) := by
      intro hv
      have e := fun a b (h1 : a < 4) (h2 : b < 3) => ha a b (by omega) h2
      have e00 := e 0 0 (by omega) (by omega)
      have e01 := e 0 1 (by omega) (by omega)
      have e02 := e 0 2 (by omega) (by omega)
      have e10 := e 1 0 (by omega) (by omega)
      have e11 := e 1 1 (by omega) (by omega)
      have e12 := e 1 2 (by omega) (by omega)
      have e20 := e 2 0 (by omega) (by omega)
      have e21 := e 2 1 (by omega) (by omega)
      have e22 := e 2 2 (by omega) (by omega)
      have e30 := e 3 0 (by omega) (by omega)
      have e31 := e 3 1 (by omega) (by omega)
      have e32 := e 3 2 (by omega) (by omega)
      have a1 : lfx q = lfx (gq S V) := by unfold lfx; rw [e00, e02, e10, e12]
      have a2 : lfy q = lfy (gq S V) := by unfold lfy; rw [e01, e02, e11, e12]
      have a3 : ltx q = ltx (gq S V) := by unfold ltx; rw [e20, e22, e30, e32]
      have a4 : lty q = lty (gq S V) := by unfold lty; rw [e21, e22, e31, e32]
      refine ⟨?_, a1, a2, a3, a4⟩
      unfold clik9 lre lot lsq
      rw [a1, a2, a3, a4, e00, e01, e02, e12, e20, e21, e22, e32]
    have hiff : (cNear V.1 (gs S V) q 4 = true ∧ ¬ (lfx q = 0 ∧ lfy q = 0) ∧ ¬ (ltx q = 0 ∧ lty q = 0)) ↔ mayB S V 5 = true := by
      rw [near_iff ha, may5_iff]
      constructor
      · rintro ⟨⟨h1, h2, h3⟩, h4, h5⟩
        obtain ⟨-, b1, b2, b3, b4⟩ := hq h1
        rw [b1, b2] at h4
        rw [b3, b4] at h5
        exact ⟨⟨h1, h2⟩, h3, (dist_iff hI hV (by omega) (by omega) (h2 0 (by omega)) (h2 1 (by omega)) (h3 0 (by omega))).mpr h4, (dist_iff hI hV (by omega) (by omega) (h2 2 (by omega)) (h2 3 (by omega)) (h3 2 (by omega))).mpr h5⟩
      · rintro ⟨⟨h1, h2⟩, h3, h4, h5⟩
        obtain ⟨-, b1, b2, b3, b4⟩ := hq h1
        rw [b1, b2, b3, b4]
        exact ⟨⟨h1, h2, h3⟩, (dist_iff hI hV (by omega) (by omega) (h2 0 (by omega)) (h2 1 (by omega)) (h3 0 (by omega))).mp h4, (dist_iff hI hV (by omega) (by omega) (h2 2 (by omega)) (h2 3 (by omega)) (h3 2 (by omega))).mp h5⟩
    have hgo : mayB S V 5 = true → bpy S V M 5 3 0 = addM M (clik9 q) ∧ det9 (clik9 q) ≠ 0 := by
      intro hm
      have hc := hiff.mpr hm
      rw [near_iff ha] at hc
      obtain ⟨⟨h1, h2, h3⟩, h4, h5⟩ := hc
      obtain ⟨b0, b1, b2, b3, b4⟩ := hq h1
      rw [b1, b2] at h4
      rw [b3, b4] at h5
      rw [b0]
      exact lik_eq rfl (pts_of hI hB hV h1 h2) h3 h4 h5
    refine ⟨mk_split hiff (fun hm => (hgo hm).1), fun h0 => ?_⟩
    by_cases hm : mayB S V 5 = true
    · exact (hgo hm).2
    · rw [if_neg (fun q => hm (hiff.mp q))] at h0
      cases h0
  · -- affine
    have eC : bldC V.1 (gs S V) q 6 u v = if cNear V.1 (gs S V) q 6 = true ∧ ¬ inl0 q 0 = 0 ∧ ¬ inl0 q 3 = 0 then 0 else -3 := rfl
    have eT : bldT q 6 u v = wgt (affW q) q (sidF q 0) 3 := rfl
    rw [eC, eT]
    have hq : V.1 = 6 → sidF q 0 = sidF (gq S V) 0 ∧ inl0 q 0 = inl0 (gq S V) 0 ∧ inl0 q 3 = inl0 (gq S V) 3 ∧ ∀ i, i < 3 → affW q i = affW (gq S V) i := by
      intro hv
      have e := fun a b (h1 : a < 6) (h2 : b < 3) => ha a b (by omega) h2
      have s0 : sidF q 0 = sidF (gq S V) 0 := sid_eq (fun k i h1 h2 => e k i (by omega) h2)
      have s3 : sidF q 3 = sidF (gq S V) 3 := sid_eq (fun k i h1 h2 => e k i (by omega) h2)
      refine ⟨s0, ?_, ?_, fun i hi => ?_⟩
      · show dt3 (sidF q 0 0) (q 0) = dt3 (sidF (gq S V) 0 0) (gq S V 0)
        rw [s0]
        unfold dt3
        rw [e 0 0 (by omega) (by omega), e 0 1 (by omega) (by omega), e 0 2 (by omega) (by omega)]
      · show dt3 (sidF q 3 0) (q 3) = dt3 (sidF (gq S V) 3 0) (gq S V 3)
        rw [s3]
        unfold dt3
        rw [e 3 0 (by omega) (by omega), e 3 1 (by omega) (by omega), e 3 2 (by omega) (by omega)]
      · have m1 := Nat.mod_lt (i + 1) (show 0 < 3 by omega)
        have m2 := Nat.mod_lt (i + 2) (show 0 < 3 by omega)
        unfold affW
        rw [e i 2 (by omega) (by omega), e (3 + (i + 1) % 3) 2 (by omega) (by omega), e (3 + (i + 2) % 3) 2 (by omega) (by omega)]
    have hiff : (cNear V.1 (gs S V) q 6 = true ∧ ¬ inl0 q 0 = 0 ∧ ¬ inl0 q 3 = 0) ↔ mayB S V 6 = true := by
      rw [near_iff ha, may6_iff]
      constructor
      · rintro ⟨⟨h1, h2, h3⟩, h4, h5⟩
        obtain ⟨-, b1, b2, -⟩ := hq h1
        rw [b1, inl0_dt] at h4
        rw [b2, inl0_dt] at h5
        exact ⟨⟨h1, h2⟩, h3, h4, h5⟩
      · rintro ⟨⟨h1, h2⟩, h3, h4, h5⟩
        obtain ⟨-, b1, b2, -⟩ := hq h1
        rw [b1, b2, inl0_dt, inl0_dt]
        exact ⟨⟨h1, h2, h3⟩, h4, h5⟩
    have hgo : mayB S V 6 = true → bpy S V M 6 3 0 = addM M (wgt (affW q) q (sidF q 0) 3) ∧ det9 (wgt (affW q) q (sidF q 0) 3) ≠ 0 := by
      intro hm
      obtain ⟨⟨h1, h2⟩, h3, h4, h5⟩ := may6_iff.mp hm
      obtain ⟨b0, -, -, b3⟩ := hq h1
      have hw : ∀ n, n < 9 → wgt (affW q) q (sidF q 0) 3 n = wgt (affW (gq S V)) (gq S V) (sidF (gq S V) 0) 3 n := fun n hn => by
        rw [b0]
        exact wgt_eq (fun k i h1' h2' => ha k i (by omega) h2') b3 n hn
      refine ⟨?_, ?_⟩
      · rw [aff_eq (pts_of hI hB hV h1 h2) h3 h4 h5]
        exact (addM_congr hw M).symm
      · rw [det9_congr hw, wgt_det]
        refine Int.mul_ne_zero (Int.mul_ne_zero (Int.mul_ne_zero (Int.mul_ne_zero ?_ ?_) ?_) h5) (Int.mul_ne_zero h4 h4)
        · exact Int.mul_ne_zero (Int.mul_ne_zero (h3 0 (by omega)) (h3 4 (by omega))) (h3 5 (by omega))
        · exact Int.mul_ne_zero (Int.mul_ne_zero (h3 1 (by omega)) (h3 5 (by omega))) (h3 3 (by omega))
        · exact Int.mul_ne_zero (Int.mul_ne_zero (h3 2 (by omega)) (h3 3 (by omega))) (h3 4 (by omega))
    refine ⟨mk_split hiff (fun hm => (hgo hm).1), fun h0 => ?_⟩
    by_cases hm : mayB S V 6 = true
    · exact (hgo hm).2
    · rw [if_neg (fun q => hm (hiff.mp q))] at h0
      cases h0
  · -- projective
    have eC : bldC V.1 (gs S V) q 7 u v = prjC V.1 (gs S V) q := rfl
    have eT : bldT q 7 u v = wgt (prjW q) q (sidF q 0) 4 := rfl
    rw [eC, eT]
    have hq : V.1 = 8 → sidF q 0 = sidF (gq S V) 0 ∧ sidF q 4 = sidF (gq S V) 4 ∧ inl0 q 0 = inl0 (gq S V) 0 ∧ inl0 q 4 = inl0 (gq S V) 4 ∧ (∀ F, frW q F = frW (gq S V) F) ∧ ∀ H, toW q H = toW (gq S V) H := by
      intro hv
      have e := fun a b (h1 : a < 8) (h2 : b < 3) => ha a b (by omega) h2
      have s0 : sidF q 0 = sidF (gq S V) 0 := sid_eq (fun k i h1 h2 => e k i (by omega) h2)
      have s4 : sidF q 4 = sidF (gq S V) 4 := sid_eq (fun k i h1 h2 => e k i (by omega) h2)
      refine ⟨s0, s4, ?_, ?_, fun F => ?_, fun H => ?_⟩
      · show dt3 (sidF q 0 0) (q 0) = dt3 (sidF (gq S V) 0 0) (gq S V 0)
        rw [s0]
        unfold dt3
        rw [e 0 0 (by omega) (by omega), e 0 1 (by omega) (by omega), e 0 2 (by omega) (by omega)]
      · show dt3 (sidF q 4 0) (q 4) = dt3 (sidF (gq S V) 4 0) (gq S V 4)
        rw [s4]
        unfold dt3
        rw [e 4 0 (by omega) (by omega), e 4 1 (by omega) (by omega), e 4 2 (by omega) (by omega)]
      · funext i
        unfold frW dt3
        rw [e 3 0 (by omega) (by omega), e 3 1 (by omega) (by omega), e 3 2 (by omega) (by omega)]
      · funext i
        unfold toW dt3
        rw [e 7 0 (by omega) (by omega), e 7 1 (by omega) (by omega), e 7 2 (by omega) (by omega)]
    have hfw : V.1 = 8 → fwB q (sidF q 0) (sidF q 4) = fwB (gq S V) (sidF (gq S V) 0) (sidF (gq S V) 4) ∧ prjW q = prjW (gq S V) := by
      intro hv
      obtain ⟨b0, b4, -, -, bf, bt⟩ := hq hv
      have p1 : ∀ F H, pr1 q F H = pr1 (gq S V) F H := fun F H => by unfold pr1; rw [bf, bt]
      have p2 : ∀ F H, pr2 q F H = pr2 (gq S V) F H := fun F H => by unfold pr2; rw [bf, bt]
      have p3 : ∀ F H, wt3 q F H = wt3 (gq S V) F H := fun F H => by unfold wt3; rw [p1, p2]
      constructor
      · unfold fwB
        rw [b0, b4, p1, p2, p3]
      · unfold prjW
        rw [b0, b4, p3]
    have hiff : ((cAll V.1 (gs S V) 0 8 = true ∧ ¬ inl0 q 0 = 0 ∧ ¬ inl0 q 4 = 0) ∧ (¬ frW q (sidF q 0) 0 = 0 ∧ ¬ toW q (sidF q 4) 0 = 0) ∧ (¬ frW q (sidF q 0) 1 = 0 ∧ ¬ toW q (sidF q 4) 1 = 0) ∧ (¬ frW q (sidF q 0) 2 = 0 ∧ ¬ toW q (sidF q 4) 2 = 0)) ↔ mayB S V 7 = true := by
      rw [all_iff, may7_iff]
      have key : V.1 = 8 → (((¬ inl0 q 0 = 0 ∧ ¬ inl0 q 4 = 0) ∧ (¬ frW q (sidF q 0) 0 = 0 ∧ ¬ toW q (sidF q 4) 0 = 0) ∧ (¬ frW q (sidF q 0) 1 = 0 ∧ ¬ toW q (sidF q 4) 1 = 0) ∧ (¬ frW q (sidF q 0) 2 = 0 ∧ ¬ toW q (sidF q 4) 2 = 0)) ↔ ((dt9 (gq S V 0) (gq S V 1) (gq S V 2) ≠ 0 ∧ dt9 (gq S V 0) (gq S V 1) (gq S V 3) ≠ 0 ∧ dt9 (gq S V 0) (gq S V 2) (gq S V 3) ≠ 0 ∧ dt9 (gq S V 1) (gq S V 2) (gq S V 3) ≠ 0) ∧ dt9 (gq S V 4) (gq S V 5) (gq S V 6) ≠ 0 ∧ dt9 (gq S V 4) (gq S V 5) (gq S V 7) ≠ 0 ∧ dt9 (gq S V 4) (gq S V 6) (gq S V 7) ≠ 0 ∧ dt9 (gq S V 5) (gq S V 6) (gq S V 7) ≠ 0)) := by
        intro hv
        obtain ⟨b0, b4, c0, c4, bf, bt⟩ := hq hv
        obtain ⟨f0, f1, f2⟩ := fr_dt (gq S V)
        obtain ⟨t0, t1, t2⟩ := to_dt (gq S V)
        rw [b0, b4, c0, c4, bf, bt, f0, f1, f2, t0, t1, t2, inl0_dt, inl0_dt]
        simp only [Nat.zero_add, Nat.reduceAdd, ne_eq]
        omega
      constructor
      · rintro ⟨⟨h1, h2⟩, h3⟩
        exact ⟨h1, (key h1.1).mp ⟨h2, h3⟩⟩
      · rintro ⟨h1, h2⟩
        obtain ⟨k1, k2⟩ := (key h1.1).mpr h2
        exact ⟨⟨h1, k1⟩, k2⟩
    by_cases hm : mayB S V 7 = true
    · have hc := hiff.mpr hm
      obtain ⟨⟨h1, h2⟩, ⟨h3, -⟩, h4, -⟩ := may7_iff.mp hm
      obtain ⟨b0, b4, -, -, bf, bt⟩ := hq h1
      obtain ⟨w1, w2⟩ := hfw h1
      have hf : ∀ i, i < 3 → frW (gq S V) (sidF (gq S V) 0) i ≠ 0 := fun i hi => by
        rw [← b0, ← bf]
        rcases (show i = 0 ∨ i = 1 ∨ i = 2 by omega) with rfl | rfl | rfl
        · exact hc.2.1.1
        · exact hc.2.2.1.1
        · exact hc.2.2.2.1
      have ht : ∀ i, i < 3 → toW (gq S V) (sidF (gq S V) 4) i ≠ 0 := fun i hi => by
        rw [← b4, ← bt]
        rcases (show i = 0 ∨ i = 1 ∨ i = 2 by omega) with rfl | rfl | rfl
        · exact hc.2.1.2
        · exact hc.2.2.1.2
        · exact hc.2.2.2.2
      have hP := pts_of hI hB hV h1 h2
      have hw : ∀ n, n < 9 → wgt (prjW q) q (sidF q 0) 4 n = wgt (prjW (gq S V)) (gq S V) (sidF (gq S V) 0) 4 n := fun n hn => by
        rw [b0, w2]
        exact wgt_eq (fun k i h1' h2' => ha k i (by omega) h2') (fun _ _ => rfl) n hn
      rw [if_pos hm]
      unfold prjC
      rw [if_pos hc, w1]
      cases hb : fwB (gq S V) (sidF (gq S V) 0) (sidF (gq S V) 4) with
      | true =>
        obtain ⟨p1, p2⟩ := prj_eq (M := M) rfl hP h3 h4 hf ht hb
        rw [if_pos rfl, if_pos rfl]
        refine ⟨?_, fun _ => ?_⟩
        · rw [p1]
          exact (addM_congr hw M).symm
        · rw [det9_congr hw]
          exact p2
      | false =>
        rw [if_neg (by decide), if_neg (by decide)]
        exact ⟨prj_bad rfl hP h3 h4 hf ht hb, fun h => by cases h⟩
    · have hc : ¬ _ := fun q => hm (hiff.mp q)
      rw [if_neg hm]
      unfold prjC
      rw [if_neg hc, if_neg (by decide)]
      exact ⟨rfl, fun h => by cases h⟩
theorem bldT_det {S : SO} {V : SV} {q : Nat → Nat → Int} (ha : agrO S V q) {k : Nat} (hk : ¬ (4 < k ∧ k < 8)) (hk8 : k ≤ 8) {u v : Int} (h : bldC V.1 (gs S V) q k u v = 0) : det9 (bldT q k u v) ≠ 0 := by
  have hb : ∀ {P : Prop} [Decidable P], (if P then (0 : Int) else -3) = 0 → P := fun {P} _ h => by
    by_cases hp : P
    · exact hp
    · rw [if_neg hp] at h
      cases h
  rcases (show k = 0 ∨ k = 1 ∨ k = 2 ∨ k = 3 ∨ k = 4 ∨ k = 8 by omega) with rfl | rfl | rfl | rfl | rfl | rfl
  · have h1 : cNear V.1 (gs S V) q 1 = true := hb h
    have h2 := (near1 h1).2.2 0 (by omega)
    show det9 (simT 0 (q 0) 0 0) ≠ 0
    rw [sim0_det]
    exact Int.mul_ne_zero (Int.mul_ne_zero h2 h2) h2
  · obtain ⟨h1, h3⟩ : cNear V.1 (gs S V) q 1 = true ∧ ¬ (u = 0 ∧ v = 0) := hb h
    have h2 := (near1 h1).2.2 0 (by omega)
    show det9 (simT 1 (q 0) u v) ≠ 0
    rw [sim1_det (by decide) (by decide)]
    have h4 := sq_pos h3
    exact Int.mul_ne_zero (Int.mul_ne_zero (Int.mul_ne_zero h4 h4) h4) (Int.mul_ne_zero (Int.mul_ne_zero h2 h2) h2)
  · obtain ⟨h1, -, h3⟩ : cAll V.1 (gs S V) 1 1 = true ∧ ¬ (1 : Int) = 0 ∧ ¬ q 0 0 * q 0 0 + q 0 1 * q 0 1 = 0 := hb h
    show det9 (mul9 (gliO (q 0) 0 1) (mirT (q 0))) ≠ 0
    rw [tdet, gliO_det, mirT_det]
    refine Int.mul_ne_zero (by decide) ?_
    intro hz
    exact Int.mul_ne_zero (Int.mul_ne_zero h3 h3) h3 (by omega)
  · obtain ⟨h1, h3, h4⟩ : cNear V.1 (gs S V) q 1 = true ∧ ¬ u = 0 ∧ ¬ v = 0 := hb h
    have h2 := (near1 h1).2.2 0 (by omega)
    show det9 (simT 3 (q 0) u v) ≠ 0
    rw [sim3_det]
    exact Int.mul_ne_zero (Int.mul_ne_zero (Int.mul_ne_zero h3 h3) h4) (Int.mul_ne_zero (Int.mul_ne_zero h2 h2) h2)
  · obtain ⟨h1, h4, h3⟩ : cAll V.1 (gs S V) 1 1 = true ∧ ¬ v = 0 ∧ ¬ q 0 0 * q 0 0 + q 0 1 * q 0 1 = 0 := hb h
    show det9 (mul9 (gliO (q 0) u v) (mirT (q 0))) ≠ 0
    rw [tdet, gliO_det, mirT_det]
    refine Int.mul_ne_zero (Int.mul_ne_zero (Int.mul_ne_zero h4 h4) h4) ?_
    intro hz
    exact Int.mul_ne_zero (Int.mul_ne_zero h3 h3) h3 (by omega)
  · obtain ⟨h1, h3⟩ : cAll V.1 (gs S V) 1 3 = true ∧ ¬ det9 (fun i => q (i / 3) (i % 3)) = 0 := hb h
    exact h3
theorem wgt_bd {w : Nat → Int} {g : Nat → Nat → Int} {s n : Nat} {A : Int} (hA : 0 ≤ A) (hw : ∀ i, i < 3 → ab (w i) A) (hg : ∀ k i, k < s + 3 → i < 3 → ab (g k i) 500) (hn : n < 9) : ab (wgt w g (sidF g 0) s n) (750000000 * A) := by
  have hF : ∀ k j, ab (sidF g 0 k j) 500000 := fun k j => by
    have m1 := Nat.mod_lt (k + 1) (show 0 < 3 by omega)
    have m2 := Nat.mod_lt (k + 2) (show 0 < 3 by omega)
    exact crs_bd (fun i hi => hg _ i (by omega) hi) (fun i hi => hg _ i (by omega) hi) j
  unfold wgt
  refine ab_le (ab_add (ab_add (ab_mul (ab_mul (hw 0 (by omega)) (hg s (n / 3) (by omega) (by omega))) (hF 0 (n % 3))) (ab_mul (ab_mul (hw 1 (by omega)) (hg (s + 1) (n / 3) (by omega) (by omega))) (hF 1 (n % 3)))) (ab_mul (ab_mul (hw 2 (by omega)) (hg (s + 2) (n / 3) (by omega) (by omega))) (hF 2 (n % 3)))) ?_
  omega
theorem bldT_bd {S : SO} {V : SV} {q : Nat → Nat → Int} (hB : objB S) (hV : rowP S V) (ha : agrO S V q) {k : Nat} (hk8 : k ≤ 8) {u v : Int} (hu : ab u 1000) (hv : ab v 1000) (h : bldC V.1 (gs S V) q k u v = 0) (i : Nat) (hi : i < 9) : ab (bldT q k u v i) 4000000000000000000 := by
  have hb : ∀ {P : Prop} [Decidable P], (if P then (0 : Int) else -3) = 0 → P := fun {P} _ h => by
    by_cases hp : P
    · exact hp
    · rw [if_neg hp] at h
      cases h
  have hq : ∀ n, V.1 = n → ∀ k i, k < n → i < 3 → ab (q k i) 500 := fun n hn k i hk hi => by
    rw [ha k i (by omega) hi]
    exact hB _ i (hV.2 k (by omega)) hi
  rcases (show k = 0 ∨ k = 1 ∨ k = 2 ∨ k = 3 ∨ k = 4 ∨ k = 5 ∨ k = 6 ∨ k = 7 ∨ k = 8 by omega) with rfl | rfl | rfl | rfl | rfl | rfl | rfl | rfl | rfl
  · have h1 : cNear V.1 (gs S V) q 1 = true := hb h
    exact ab_le (simT_bd (fun i hi => hq 1 (near1 h1).1 0 i (by omega) hi) (show ab 0 1000 from ⟨by omega, by omega⟩) (show ab 0 1000 from ⟨by omega, by omega⟩) 0 i) (by decide)
  · obtain ⟨h1, -⟩ : cNear V.1 (gs S V) q 1 = true ∧ ¬ (u = 0 ∧ v = 0) := hb h
    exact ab_le (simT_bd (fun i hi => hq 1 (near1 h1).1 0 i (by omega) hi) hu hv 1 i) (by decide)
  · obtain ⟨h1, -⟩ : cAll V.1 (gs S V) 1 1 = true ∧ ¬ (1 : Int) = 0 ∧ ¬ q 0 0 * q 0 0 + q 0 1 * q 0 1 = 0 := hb h
    have hq0 := fun i hi => hq 1 (all1 h1).1 0 i (by omega) hi
    exact ab_le (mul9_bd2 (fun i hi => gliO_bd hq0 (show ab 0 1000 from ⟨by omega, by omega⟩) (show ab 1 1000 from ⟨by omega, by omega⟩) i) (fun i hi => mirT_bd hq0 i) i hi) (by decide)
  · obtain ⟨h1, -⟩ : cNear V.1 (gs S V) q 1 = true ∧ ¬ u = 0 ∧ ¬ v = 0 := hb h
    exact ab_le (simT_bd (fun i hi => hq 1 (near1 h1).1 0 i (by omega) hi) hu hv 3 i) (by decide)
  · obtain ⟨h1, -⟩ : cAll V.1 (gs S V) 1 1 = true ∧ ¬ v = 0 ∧ ¬ q 0 0 * q 0 0 + q 0 1 * q 0 1 = 0 := hb h
    have hq0 := fun i hi => hq 1 (all1 h1).1 0 i (by omega) hi
    exact ab_le (mul9_bd2 (fun i hi => gliO_bd hq0 hu hv i) (fun i hi => mirT_bd hq0 i) i hi) (by decide)
  · obtain ⟨h1, -⟩ : cNear V.1 (gs S V) q 4 = true ∧ ¬ (lfx q = 0 ∧ lfy q = 0) ∧ ¬ (ltx q = 0 ∧ lty q = 0) := hb h
    have hg := hq 4 (near1 h1).1
    have bd2 : ∀ i j k l m n o p, i < 4 → j < 3 → k < 4 → l < 3 → m < 4 → n < 3 → o < 4 → p < 3 → ab (q i j * q k l - q m n * q o p) 500000 := fun i j k l m n o p h1 h2 h3 h4 h5 h6 h7 h8 => ab_le (ab_sub (ab_mul (hg i j h1 h2) (hg k l h3 h4)) (ab_mul (hg m n h5 h6) (hg o p h7 h8))) (by decide)
    have x1 : ab (lfx q) 500000 := bd2 1 0 0 2 0 0 1 2 (by omega) (by omega) (by omega) (by omega) (by omega) (by omega) (by omega) (by omega)
    have x2 : ab (lfy q) 500000 := bd2 1 1 0 2 0 1 1 2 (by omega) (by omega) (by omega) (by omega) (by omega) (by omega) (by omega) (by omega)
    have x3 : ab (ltx q) 500000 := bd2 3 0 2 2 2 0 3 2 (by omega) (by omega) (by omega) (by omega) (by omega) (by omega) (by omega) (by omega)
    have x4 : ab (lty q) 500000 := bd2 3 1 2 2 2 1 3 2 (by omega) (by omega) (by omega) (by omega) (by omega) (by omega) (by omega) (by omega)
    have y1 : ab (lre q) 500000000000 := ab_le (ab_add (ab_mul x3 x1) (ab_mul x4 x2)) (by decide)
    have y2 : ab (lot q) 500000000000 := ab_le (ab_sub (ab_mul x4 x1) (ab_mul x3 x2)) (by decide)
    have y3 : ab (lsq q) 500000000000 := ab_le (ab_add (ab_mul x1 x1) (ab_mul x2 x2)) (by decide)
    have g := fun a b (h1 : a < 4) (h2 : b < 3) => hg a b h1 h2
    have z1 : ab (lre q * (q 0 2 * q 1 2)) 400000000000000000 := ab_le (ab_mul y1 (ab_mul (g 0 2 (by omega) (by omega)) (g 1 2 (by omega) (by omega)))) (by decide)
    have z2 : ab (lot q * (q 0 2 * q 1 2)) 400000000000000000 := ab_le (ab_mul y2 (ab_mul (g 0 2 (by omega) (by omega)) (g 1 2 (by omega) (by omega)))) (by decide)
    refine ab_le (t9_bd z1 (ab_neg z2) (ab_le (ab_sub (ab_mul (ab_mul (g 2 0 (by omega) (by omega)) y3) (g 3 2 (by omega) (by omega))) (ab_mul (g 1 2 (by omega) (by omega)) (ab_sub (ab_mul y1 (g 0 0 (by omega) (by omega))) (ab_mul y2 (g 0 1 (by omega) (by omega)))))) (by decide)) z2 z1 (ab_le (ab_sub (ab_mul (ab_mul (g 2 1 (by omega) (by omega)) y3) (g 3 2 (by omega) (by omega))) (ab_mul (g 1 2 (by omega) (by omega)) (ab_add (ab_mul y1 (g 0 1 (by omega) (by omega))) (ab_mul y2 (g 0 0 (by omega) (by omega)))))) (by decide)) ⟨by omega, by omega⟩ ⟨by omega, by omega⟩ (ab_le (ab_mul (ab_mul y3 (g 2 2 (by omega) (by omega))) (g 3 2 (by omega) (by omega))) (by decide)) i) (by decide)
  · obtain ⟨h1, -⟩ : cNear V.1 (gs S V) q 6 = true ∧ ¬ inl0 q 0 = 0 ∧ ¬ inl0 q 3 = 0 := hb h
    have hg := hq 6 (near1 h1).1
    refine ab_le (wgt_bd (A := 125000000) (by decide) (fun j hj => ?_) (fun k i h1 h2 => hg k i (by omega) h2) hi) (by decide)
    have m1 := Nat.mod_lt (j + 1) (show 0 < 3 by omega)
    have m2 := Nat.mod_lt (j + 2) (show 0 < 3 by omega)
    exact ab_le (ab_mul (ab_mul (hg j 2 (by omega) (by omega)) (hg (3 + (j + 1) % 3) 2 (by omega) (by omega))) (hg (3 + (j + 2) % 3) 2 (by omega) (by omega))) (by decide)
  · have h1 : prjC V.1 (gs S V) q = 0 := h
    unfold prjC at h1
    by_cases hc : ((cAll V.1 (gs S V) 0 8 = true ∧ ¬ inl0 q 0 = 0 ∧ ¬ inl0 q 4 = 0) ∧ (¬ frW q (sidF q 0) 0 = 0 ∧ ¬ toW q (sidF q 4) 0 = 0) ∧ (¬ frW q (sidF q 0) 1 = 0 ∧ ¬ toW q (sidF q 4) 1 = 0) ∧ (¬ frW q (sidF q 0) 2 = 0 ∧ ¬ toW q (sidF q 4) 2 = 0))
    · rw [if_pos hc] at h1
      cases hw : fwB q (sidF q 0) (sidF q 4) with
      | false => rw [hw] at h1; exact absurd h1 (by decide)
      | true =>
        have hg := hq 8 (all1 hc.1.1).1
        unfold fwB at hw
        simp only [Bool.and_eq_true] at hw
        exact ab_le (wgt_bd (A := 750000) (by decide) (fun j hj => fitM_le hw.2.2 j hj) (fun k i h1 h2 => hg k i (by omega) h2) hi) (by decide)
    · rw [if_neg hc] at h1
      exact absurd h1 (by decide)
  · obtain ⟨h1, -⟩ : cAll V.1 (gs S V) 1 3 = true ∧ ¬ det9 (fun i => q (i / 3) (i % 3)) = 0 := hb h
    exact ab_le (hq 3 (all1 h1).1 (i / 3) (i % 3) (by omega) (by omega)) (by decide)
theorem make_eq {S : SS} (hI : InvO S.1) (hB : objB S.1) (hV : rowP S.1 S.2.2.1) {q : Nat → Nat → Int} (ha : agr S q) (k u v : Int) : spQ S q k u v = sp_make S k u v := by
  unfold spQ sp_make
  by_cases hc : (0 ≤ k ∧ k ≤ 8) ∧ (-1000 ≤ u ∧ u ≤ 1000) ∧ (-1000 ≤ v ∧ v ≤ 1000)
  · rw [if_pos hc, if_pos hc]
    have e : mkM S.1 S.2.2.1 S.2.1 k.toNat u v = if bldC S.2.2.1.1 (gs S.1 S.2.2.1) q k.toNat u v = 0 then addM S.2.1 (bldT q k.toNat u v) else (bldC S.2.2.1.1 (gs S.1 S.2.2.1) q k.toNat u v, S.2.1) := by
      by_cases hk : 4 < k.toNat ∧ k.toNat < 8
      · exact (mk_by hI hB hV ha S.2.1 hk u v).1
      · exact mk_simple ha S.2.1 hk (by omega) u v
    rw [e]
    by_cases h0 : bldC S.2.2.1.1 (gs S.1 S.2.2.1) q k.toNat u v = 0
    · rw [if_pos h0, if_pos h0]
    · rw [if_neg h0, if_neg h0]
  · rw [if_neg hc, if_neg hc]
theorem make_hB {S : SS} (hI : InvO S.1) (hB : objB S.1) (hV : rowP S.1 S.2.2.1) {k u v : Int} (hu : ab u 1000) (hv : ab v 1000) (q : Nat → Nat → Int) (ha : agr S q) (hk : 0 ≤ k ∧ k ≤ 8) (h0 : bldC S.2.2.1.1 (gs S.1 S.2.2.1) q k.toNat u v = 0) : (∀ i, i < 9 → ab (bldT q k.toNat u v i) 4000000000000000000) ∧ gN (bldT q k.toNat u v) 9 ≠ 0 := by
  refine ⟨bldT_bd hB hV ha (by omega) hu hv h0, det_ne ?_⟩
  by_cases hk2 : 4 < k.toNat ∧ k.toNat < 8
  · exact (mk_by hI hB hV ha S.2.1 hk2 u v).2 h0
  · exact bldT_det ha hk2 (by omega) h0
