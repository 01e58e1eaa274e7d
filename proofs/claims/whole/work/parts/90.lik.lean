/-! likenesses by points -/
theorem pu_sq {a b A : Int} (ha : ab a A) (hb : ab b A) (hA : A < 2147483647) (h : ¬ (a = 0 ∧ b = 0)) : pu (P0 : Int) (a * a + b * b) := by
  intro q
  obtain ⟨h1, h2⟩ := two_sq P0_pr (k := 536870911) (by decide) (by decide) q
  exact h ⟨Classical.byContradiction (fun n => pu_ab ha hA n h1), Classical.byContradiction (fun n => pu_ab hb hA n h2)⟩
theorem lik_lin {x0 y0 w0 x1 y1 w1 X0 Y0 W0 X1 Y1 W1 a b c d e c0 c1 : Int} (e0 : a * x0 + -b * y0 + c * w0 = c0 * X0) (e1 : b * x0 + a * y0 + d * w0 = c0 * Y0) (e2 : e * w0 = c0 * W0) (k0 : a * x1 + -b * y1 + c * w1 = c1 * X1) (k1 : b * x1 + a * y1 + d * w1 = c1 * Y1) (k2 : e * w1 = c1 * W1) :
    W0 * W1 * (a * (x1 * w0 - x0 * w1) - b * (y1 * w0 - y0 * w1)) = e * (w0 * w1) * (X1 * W0 - X0 * W1) ∧ W0 * W1 * (b * (x1 * w0 - x0 * w1) + a * (y1 * w0 - y0 * w1)) = e * (w0 * w1) * (Y1 * W0 - Y0 * W1) := by
  constructor
  · have h1 : a * (x1 * w0 - x0 * w1) - b * (y1 * w0 - y0 * w1) = w0 * (c1 * X1) - w1 * (c0 * X0) := by
      rw [← e0, ← k0]
      clear e0 e1 e2 k0 k1 k2
      grind
    have h2 : W0 * W1 * (w0 * (c1 * X1) - w1 * (c0 * X0)) = w0 * W0 * X1 * (c1 * W1) - w1 * W1 * X0 * (c0 * W0) := by
      clear e0 e1 e2 k0 k1 k2 h1
      grind
    rw [h1, h2, ← k2, ← e2]
    clear e0 e1 e2 k0 k1 k2 h1 h2
    grind
  · have h1 : b * (x1 * w0 - x0 * w1) + a * (y1 * w0 - y0 * w1) = w0 * (c1 * Y1) - w1 * (c0 * Y0) := by
      rw [← e1, ← k1]
      clear e0 e1 e2 k0 k1 k2
      grind
    have h2 : W0 * W1 * (w0 * (c1 * Y1) - w1 * (c0 * Y0)) = w0 * W0 * Y1 * (c1 * W1) - w1 * W1 * Y0 * (c0 * W0) := by
      clear e0 e1 e2 k0 k1 k2 h1
      grind
    rw [h1, h2, ← k2, ← e2]
    clear e0 e1 e2 k0 k1 k2 h1 h2
    grind
theorem lik_ab {p q r s a b e K L : Int} (h1 : K * (a * p - b * q) = e * L * r) (h2 : K * (b * p + a * q) = e * L * s) : a * ((p * p + q * q) * K) = e * ((r * p + s * q) * L) ∧ b * ((p * p + q * q) * K) = e * ((s * p - r * q) * L) := by
  constructor
  · have : a * ((p * p + q * q) * K) = p * (K * (a * p - b * q)) + q * (K * (b * p + a * q)) := by grind
    rw [this, h1, h2]
    grind
  · have : b * ((p * p + q * q) * K) = p * (K * (b * p + a * q)) - q * (K * (a * p - b * q)) := by grind
    rw [this, h1, h2]
    grind
theorem lik_c {w0 w1 W0 W1 x0 y0 X0 a b c e k sq re ot : Int} (e0 : a * x0 + -b * y0 + c * w0 = k * X0) (e2 : e * w0 = k * W0) (ra : a * (sq * W0 * W1) = e * (re * (w0 * w1))) (rb : b * (sq * W0 * W1) = e * (ot * (w0 * w1))) : w0 * (c * (sq * W0 * W1)) = w0 * (e * (X0 * sq * W1 - w1 * (re * x0 - ot * y0))) := by
  have h : c * w0 = k * X0 - a * x0 + b * y0 := by
    rw [Int.neg_mul] at e0
    omega
  have h1 : w0 * (c * (sq * W0 * W1)) = c * w0 * (sq * W0 * W1) := by clear e0 e2 ra rb h; grind
  have h2 : (k * X0 - a * x0 + b * y0) * (sq * W0 * W1) = X0 * sq * W1 * (k * W0) - x0 * (a * (sq * W0 * W1)) + y0 * (b * (sq * W0 * W1)) := by clear e0 e2 ra rb h h1; grind
  rw [h1, h, h2, ra, rb, ← e2]
  clear e0 e2 ra rb h h1 h2
  grind
theorem lik_d {w0 w1 W0 W1 x0 y0 Y0 a b d e k sq re ot : Int} (e1 : b * x0 + a * y0 + d * w0 = k * Y0) (e2 : e * w0 = k * W0) (ra : a * (sq * W0 * W1) = e * (re * (w0 * w1))) (rb : b * (sq * W0 * W1) = e * (ot * (w0 * w1))) : w0 * (d * (sq * W0 * W1)) = w0 * (e * (Y0 * sq * W1 - w1 * (re * y0 + ot * x0))) := by
  have h : d * w0 = k * Y0 - b * x0 - a * y0 := by omega
  have h1 : w0 * (d * (sq * W0 * W1)) = d * w0 * (sq * W0 * W1) := by clear e1 e2 ra rb h; grind
  have h2 : (k * Y0 - b * x0 - a * y0) * (sq * W0 * W1) = Y0 * sq * W1 * (k * W0) - x0 * (b * (sq * W0 * W1)) - y0 * (a * (sq * W0 * W1)) := by clear e1 e2 ra rb h h1; grind
  rw [h1, h, h2, ra, rb, ← e2]
  clear e1 e2 ra rb h h1 h2
  grind
theorem lik_at0 {x0 y0 w0 x1 y1 w1 X0 W0 X1 W1 sq re ot : Int} (s1 : re * (x1 * w0 - x0 * w1) - ot * (y1 * w0 - y0 * w1) = (X1 * W0 - X0 * W1) * sq) : re * (w0 * w1) * x1 + -(ot * (w0 * w1)) * y1 + (X0 * sq * W1 - w1 * (re * x0 - ot * y0)) * w1 = w1 * sq * W0 * X1 := by
  have h : re * (w0 * w1) * x1 + -(ot * (w0 * w1)) * y1 + (X0 * sq * W1 - w1 * (re * x0 - ot * y0)) * w1 = w1 * (re * (x1 * w0 - x0 * w1) - ot * (y1 * w0 - y0 * w1)) + X0 * sq * W1 * w1 := by clear s1; grind
  rw [h, s1]
  clear s1 h
  grind
theorem lik_at1 {x0 y0 w0 x1 y1 w1 Y0 W0 Y1 W1 sq re ot : Int} (s2 : ot * (x1 * w0 - x0 * w1) + re * (y1 * w0 - y0 * w1) = (Y1 * W0 - Y0 * W1) * sq) : ot * (w0 * w1) * x1 + re * (w0 * w1) * y1 + (Y0 * sq * W1 - w1 * (re * y0 + ot * x0)) * w1 = w1 * sq * W0 * Y1 := by
  have h : ot * (w0 * w1) * x1 + re * (w0 * w1) * y1 + (Y0 * sq * W1 - w1 * (re * y0 + ot * x0)) * w1 = w1 * (ot * (x1 * w0 - x0 * w1) + re * (y1 * w0 - y0 * w1)) + Y0 * sq * W1 * w1 := by clear s2; grind
  rw [h, s2]
  clear s2 h
  grind
theorem lik_sq (g : Nat → Nat → Int) : lre g * lre g + lot g * lot g = lsq g * (ltx g * ltx g + lty g * lty g) := by
  unfold lre lot lsq
  generalize lfx g = a
  generalize lfy g = b
  generalize ltx g = c
  generalize lty g = d
  grind
theorem plc_cg {S : SO} {V : SV} {g : Nat → Nat → Int} (hg : g = gq S V) {i a : Nat} (hu : pu (P0 : Int) (g i 2)) : cg P0 (g i 2 * plc P0 S V i a) (g i a) := by
  unfold plc
  rw [← hg]
  have h1 := cg_inv P0_pr hu
  generalize g i 2 = w at *
  generalize g i a = x at *
  have h2 : cg P0 (w * (x % P0 * invp P0 w % P0)) (w * (x * invp P0 w)) := (cg.rf _).ml ((cg.mo _).tr ((cg.mo _).ml (cg.rf _)))
  refine h2.tr ?_
  have h3 := h1.ml (cg.rf (p := (P0 : Int)) x)
  rw [Int.one_mul] at h3
  rw [show w * (x * invp P0 w) = w * invp P0 w * x by grind]
  exact h3
theorem lik_eq {S : SO} {V : SV} {M : SM} {g : Nat → Nat → Int} (hg : g = gq S V) (hP : ptsP S V 4) (hn : ∀ i, i < 4 → g i 2 ≠ 0) (hF : ¬ (lfx g = 0 ∧ lfy g = 0)) (hT : ¬ (ltx g = 0 ∧ lty g = 0)) : bpy S V M 5 3 0 = addM M (clik9 g) ∧ det9 (clik9 g) ≠ 0 := by
  have hb := hP.2
  rw [← hg] at hb
  have n0 := hn 0 (by omega)
  have n1 := hn 1 (by omega)
  have n2 := hn 2 (by omega)
  have n3 := hn 3 (by omega)
  have u0 := pu_ab (hb 0 2 (by omega) (by omega)) (by decide) n0
  have u1 := pu_ab (hb 1 2 (by omega) (by omega)) (by decide) n1
  have u2 := pu_ab (hb 2 2 (by omega) (by omega)) (by decide) n2
  have u3 := pu_ab (hb 3 2 (by omega) (by omega)) (by decide) n3
  have hp := P0_pr
  have bd2 : ∀ i j k l m n o q, i < 4 → j < 3 → k < 4 → l < 3 → m < 4 → n < 3 → o < 4 → q < 3 → ab (g i j * g k l - g m n * g o q) 500000 := fun i j k l m n o q h1 h2 h3 h4 h5 h6 h7 h8 => ab_le (ab_sub (ab_mul (hb i j h1 h2) (hb k l h3 h4)) (ab_mul (hb m n h5 h6) (hb o q h7 h8))) (by decide)
  have uF : pu (P0 : Int) (lsq g) := pu_sq (A := 500000) (bd2 1 0 0 2 0 0 1 2 (by omega) (by omega) (by omega) (by omega) (by omega) (by omega) (by omega) (by omega)) (bd2 1 1 0 2 0 1 1 2 (by omega) (by omega) (by omega) (by omega) (by omega) (by omega) (by omega) (by omega)) (by decide) hF
  have uT : pu (P0 : Int) (ltx g * ltx g + lty g * lty g) := pu_sq (A := 500000) (bd2 3 0 2 2 2 0 3 2 (by omega) (by omega) (by omega) (by omega) (by omega) (by omega) (by omega) (by omega)) (bd2 3 1 2 2 2 1 3 2 (by omega) (by omega) (by omega) (by omega) (by omega) (by omega) (by omega) (by omega)) (by decide) hT
  have c0 : clik9 g 0 = lre g * (g 0 2 * g 1 2) := rfl
  have c1 : clik9 g 1 = -(lot g * (g 0 2 * g 1 2)) := rfl
  have c2 : clik9 g 2 = g 2 0 * lsq g * g 3 2 - g 1 2 * (lre g * g 0 0 - lot g * g 0 1) := rfl
  have c3 : clik9 g 3 = lot g * (g 0 2 * g 1 2) := rfl
  have c4 : clik9 g 4 = lre g * (g 0 2 * g 1 2) := rfl
  have c5 : clik9 g 5 = g 2 1 * lsq g * g 3 2 - g 1 2 * (lre g * g 0 1 + lot g * g 0 0) := rfl
  have c6 : clik9 g 6 = 0 := rfl
  have c7 : clik9 g 7 = 0 := rfl
  have c8 : clik9 g 8 = lsq g * g 2 2 * g 3 2 := rfl
  have edet : det9 (clik9 g) = lsq g * g 2 2 * g 3 2 * (g 0 2 * g 1 2 * (g 0 2 * g 1 2) * (lsq g * (ltx g * ltx g + lty g * lty g))) := by
    rw [← lik_sq]
    unfold clik9
    rw [det_t9]
    generalize lre g = a
    generalize lot g = b
    generalize lsq g = c
    grind
  have udet : pu (P0 : Int) (det9 (clik9 g)) := by
    rw [edet]
    exact pu_mul hp (pu_mul hp (pu_mul hp uF u2) u3) (pu_mul hp (pu_mul hp (pu_mul hp u0 u1) (pu_mul hp u0 u1)) (pu_mul hp uF uT))
  have hdet : det9 (clik9 g) ≠ 0 := fun q => udet (by rw [q]; exact Int.dvd_zero _)
  have h8 : clik9 g 8 ≠ 0 := by
    rw [c8]
    exact Int.mul_ne_zero (Int.mul_ne_zero (fun q => uF (by rw [q]; exact Int.dvd_zero _)) n2) n3
  refine ⟨bpy_eq hdet ?_ ?_ ?_, hdet⟩
  · intro T' hb' htr
    obtain ⟨t1, -, t5⟩ := tri_parts htr
    obtain ⟨z0, z1, z6, z7⟩ := t5 rfl
    rw [show kn 5 = 2 from rfl, ← hg] at t1
    have hex : ∀ i, i < 2 → ∃ c : Int, ∀ j, j < 3 → pimg T' (g i) j = c * g (2 + i) j := fun i hi => prim (by rw [hg]; exact hP.1 (2 + i) (by omega)) (t1 i hi)
    obtain ⟨k0, hk0⟩ := hex 0 (by omega)
    obtain ⟨k1, hk1⟩ := hex 1 (by omega)
    have e0 := hk0 0 (by omega)
    have e1 := hk0 1 (by omega)
    have e2 := hk0 2 (by omega)
    have f0 := hk1 0 (by omega)
    have f1 := hk1 1 (by omega)
    have f2 := hk1 2 (by omega)
    simp only [pimg, Nat.reduceMul, Nat.reduceAdd, Nat.add_zero, z6, z7, Int.zero_mul, Int.zero_add, z1, ← z0] at e0 e1 e2 f0 f1 f2
    obtain ⟨q1, q2⟩ := lik_lin e0 e1 e2 f0 f1 f2
    have q3 := lik_ab (p := lfx g) (q := lfy g) (r := ltx g) (s := lty g) (K := g 2 2 * g 3 2) (L := g 0 2 * g 1 2) q1 q2
    have ra : T' 0 * clik9 g 8 = T' 8 * clik9 g 0 := by
      rw [c8, c0, Int.mul_assoc (lsq g)]
      exact q3.1
    have rb : T' 3 * clik9 g 8 = T' 8 * clik9 g 3 := by
      rw [c8, c3, Int.mul_assoc (lsq g)]
      exact q3.2
    have rc2 : T' 2 * clik9 g 8 = T' 8 * clik9 g 2 := by
      refine Int.eq_of_mul_eq_mul_left n0 ?_
      rw [c8, c0] at ra
      rw [c8, c3] at rb
      rw [c8, c2]
      exact lik_c e0 e2 ra rb
    have rd : T' 5 * clik9 g 8 = T' 8 * clik9 g 5 := by
      refine Int.eq_of_mul_eq_mul_left n0 ?_
      rw [c8, c0] at ra
      rw [c8, c3] at rb
      rw [c8, c5]
      exact lik_d e1 e2 ra rb
    have hall : ∀ i, i < 9 → T' i * clik9 g 8 = T' 8 * clik9 g i := by
      intro i hi
      rcases (show i = 0 ∨ i = 1 ∨ i = 2 ∨ i = 3 ∨ i = 4 ∨ i = 5 ∨ i = 6 ∨ i = 7 ∨ i = 8 by omega) with rfl | rfl | rfl | rfl | rfl | rfl | rfl | rfl | rfl
      · exact ra
      · rw [z1, c1, ← c3, Int.neg_mul, rb, Int.mul_neg]
      · exact rc2
      · exact rb
      · rw [← z0, ra, c0, c4]
      · exact rd
      · rw [z6, c6]; simp
      · rw [z7, c7]; simp
      · rfl
    intro i j hi hj
    refine Int.eq_of_mul_eq_mul_left h8 ?_
    have a1 := hall i hi
    have a2 := hall j hj
    generalize clik9 g 8 = t8 at *
    generalize clik9 g i = ti at *
    generalize clik9 g j = tj at *
    have e1 : t8 * (T' i * tj) = T' i * t8 * tj := by grind
    have e2 : t8 * (T' j * ti) = T' j * t8 * ti := by grind
    rw [e1, e2, a1, a2]
    grind
  · intro hfit
    rw [prm_0]
    have u1' : pu (P0 : Int) (1 : Int) := pu_sm (by decide) (by decide)
    have uW : pu (P0 : Int) (g 0 2 * g 1 2 * (g 0 2 * g 1 2) * (g 2 2 * g 3 2)) := pu_mul hp (pu_mul hp (pu_mul hp u0 u1) (pu_mul hp u0 u1)) (pu_mul hp u2 u3)
    refine tel_ok hp (by decide) (fun i hi => bpT_rz (prm_ok 0) 5 S V i) udet hfit uW u1' (fun n hn9 => ?_)
    show cg P0 (g 0 2 * g 1 2 * (g 0 2 * g 1 2) * (g 2 2 * g 3 2) * likT P0 S V n) (1 * clik9 g n)
    rw [Int.one_mul]
    have p0 := fun a => plc_cg (a := a) hg u0
    have p1 := fun a => plc_cg (a := a) hg u1
    have p2 := fun a => plc_cg (a := a) hg u2
    have p3 := fun a => plc_cg (a := a) hg u3
    have hdx : ∀ a, cg P0 (g 0 2 * g 1 2 * lkdx P0 S V a) (g 1 a * g 0 2 - g 0 a * g 1 2) := by
      intro a
      unfold lkdx
      have h1 : cg P0 (g 0 2 * g 1 2 * ((plc P0 S V 1 a - plc P0 S V 0 a) % P0)) (g 0 2 * g 1 2 * (plc P0 S V 1 a - plc P0 S V 0 a)) := (cg.rf _).ml (cg.mo _)
      have h2 := ((p1 a).ml (cg.rf (p := (P0 : Int)) (g 0 2))).sb ((p0 a).ml (cg.rf (p := (P0 : Int)) (g 1 2)))
      refine h1.tr ((cg.of ?_).tr h2)
      grind
    have hexx : ∀ a, cg P0 (g 2 2 * g 3 2 * lkex P0 S V a) (g 3 a * g 2 2 - g 2 a * g 3 2) := by
      intro a
      unfold lkex
      have h1 : cg P0 (g 2 2 * g 3 2 * ((plc P0 S V 3 a - plc P0 S V 2 a) % P0)) (g 2 2 * g 3 2 * (plc P0 S V 3 a - plc P0 S V 2 a)) := (cg.rf _).ml (cg.mo _)
      have h2 := ((p3 a).ml (cg.rf (p := (P0 : Int)) (g 2 2))).sb ((p2 a).ml (cg.rf (p := (P0 : Int)) (g 3 2)))
      refine h1.tr ((cg.of ?_).tr h2)
      grind
    have d0 := hdx 0
    have d1 := hdx 1
    have x0 := hexx 0
    have x1 := hexx 1
    have hnn : cg P0 (g 0 2 * g 1 2 * (g 0 2 * g 1 2) * lkn P0 S V) (lsq g) := by
      unfold lkn
      generalize lkdx (P0 : Int) S V 0 = a at *
      generalize lkdx (P0 : Int) S V 1 = b at *
      have h1 : cg P0 (g 0 2 * g 1 2 * (g 0 2 * g 1 2) * ((a * a + b * b % P0) % P0)) (g 0 2 * g 1 2 * (g 0 2 * g 1 2) * (a * a + b * b)) := (cg.rf _).ml ((cg.mo _).tr ((cg.rf _).ad (cg.mo _)))
      refine h1.tr ((cg.of ?_).tr ((d0.ml d0).ad (d1.ml d1)))
      grind
    have hka : cg P0 (g 0 2 * g 1 2 * (g 2 2 * g 3 2) * lka P0 S V) (lre g) := by
      unfold lka
      generalize lkdx (P0 : Int) S V 0 = a at *
      generalize lkdx (P0 : Int) S V 1 = b at *
      generalize lkex (P0 : Int) S V 0 = e at *
      generalize lkex (P0 : Int) S V 1 = f at *
      have h1 : cg P0 (g 0 2 * g 1 2 * (g 2 2 * g 3 2) * ((e * a % P0 + f * b) % P0)) (g 0 2 * g 1 2 * (g 2 2 * g 3 2) * (e * a + f * b)) := (cg.rf _).ml ((cg.mo _).tr ((cg.mo _).ad (cg.rf _)))
      refine h1.tr ((cg.of ?_).tr ((x0.ml d0).ad (x1.ml d1)))
      grind
    have hkb : cg P0 (g 0 2 * g 1 2 * (g 2 2 * g 3 2) * lkb P0 S V) (lot g) := by
      unfold lkb
      generalize lkdx (P0 : Int) S V 0 = a at *
      generalize lkdx (P0 : Int) S V 1 = b at *
      generalize lkex (P0 : Int) S V 0 = e at *
      generalize lkex (P0 : Int) S V 1 = f at *
      have h1 : cg P0 (g 0 2 * g 1 2 * (g 2 2 * g 3 2) * ((f * a % P0 - e * b % P0) % P0)) (g 0 2 * g 1 2 * (g 2 2 * g 3 2) * (f * a - e * b)) := (cg.rf _).ml ((cg.mo _).tr ((cg.mo _).sb (cg.mo _)))
      refine h1.tr ((cg.of ?_).tr ((x1.ml d0).sb (x0.ml d1)))
      grind
    have r00 := p0 0
    have r01 := p0 1
    have r20 := p2 0
    have r21 := p2 1
    have hk2 : cg P0 (g 0 2 * g 1 2 * (g 0 2 * g 1 2) * (g 2 2 * g 3 2) * lk2 P0 S V) (clik9 g 2) := by
      rw [c2]
      unfold lk2
      generalize lka (P0 : Int) S V = A at *
      generalize lkb (P0 : Int) S V = B at *
      generalize lkn (P0 : Int) S V = N at *
      generalize plc (P0 : Int) S V 0 0 = y0 at *
      generalize plc (P0 : Int) S V 0 1 = y1 at *
      generalize plc (P0 : Int) S V 2 0 = y2 at *
      have h1 : cg P0 (g 0 2 * g 1 2 * (g 0 2 * g 1 2) * (g 2 2 * g 3 2) * ((y2 * N % P0 - (A * y0 % P0 - B * y1 % P0) % P0) % P0)) (g 0 2 * g 1 2 * (g 0 2 * g 1 2) * (g 2 2 * g 3 2) * (y2 * N - (A * y0 - B * y1))) := (cg.rf _).ml ((cg.mo _).tr ((cg.mo _).sb ((cg.mo _).tr ((cg.mo _).sb (cg.mo _)))))
      have m1 := ((r20.ml hnn).ml (cg.rf (g 3 2)))
      have m2 := ((hka.ml r00).sb (hkb.ml r01)).ml (cg.rf (p := (P0 : Int)) (g 1 2))
      refine h1.tr ((cg.of ?_).tr ((m1.sb m2).tr (cg.of ?_)))
      · grind
      · grind
    have hk5 : cg P0 (g 0 2 * g 1 2 * (g 0 2 * g 1 2) * (g 2 2 * g 3 2) * lk5 P0 S V) (clik9 g 5) := by
      rw [c5]
      unfold lk5
      generalize lka (P0 : Int) S V = A at *
      generalize lkb (P0 : Int) S V = B at *
      generalize lkn (P0 : Int) S V = N at *
      generalize plc (P0 : Int) S V 0 0 = y0 at *
      generalize plc (P0 : Int) S V 0 1 = y1 at *
      generalize plc (P0 : Int) S V 2 1 = y2 at *
      have h1 : cg P0 (g 0 2 * g 1 2 * (g 0 2 * g 1 2) * (g 2 2 * g 3 2) * ((y2 * N % P0 - (B * y0 % P0 + A * y1 % P0) % P0) % P0)) (g 0 2 * g 1 2 * (g 0 2 * g 1 2) * (g 2 2 * g 3 2) * (y2 * N - (B * y0 + A * y1))) := (cg.rf _).ml ((cg.mo _).tr ((cg.mo _).sb ((cg.mo _).tr ((cg.mo _).ad (cg.mo _)))))
      have m1 := ((r21.ml hnn).ml (cg.rf (g 3 2)))
      have m2 := ((hkb.ml r00).ad (hka.ml r01)).ml (cg.rf (p := (P0 : Int)) (g 1 2))
      refine h1.tr ((cg.of ?_).tr ((m1.sb m2).tr (cg.of ?_)))
      · grind
      · grind
    have hA := (cg.rf (p := (P0 : Int)) (g 0 2 * g 1 2)).ml hka
    have hB := (cg.rf (p := (P0 : Int)) (g 0 2 * g 1 2)).ml hkb
    have hN := (cg.rf (p := (P0 : Int)) (g 2 2 * g 3 2)).ml hnn
    rcases (show n = 0 ∨ n = 1 ∨ n = 2 ∨ n = 3 ∨ n = 4 ∨ n = 5 ∨ n = 6 ∨ n = 7 ∨ n = 8 by omega) with rfl | rfl | rfl | rfl | rfl | rfl | rfl | rfl | rfl
    · show cg P0 (_ * lka P0 S V) _
      exact (cg.of (by grind)).tr (hA.tr (cg.of (by rw [c0]; grind)))
    · show cg P0 (_ * ((- lkb P0 S V) % P0)) _
      have h1 : cg P0 (g 0 2 * g 1 2 * (g 0 2 * g 1 2) * (g 2 2 * g 3 2) * ((- lkb P0 S V) % P0)) (g 0 2 * g 1 2 * (g 0 2 * g 1 2) * (g 2 2 * g 3 2) * (- lkb P0 S V)) := (cg.rf _).ml (cg.mo _)
      have h2 := (cg.rf (p := (P0 : Int)) 0).sb hB
      exact h1.tr ((cg.of (by grind)).tr (h2.tr (cg.of (by rw [c1]; grind))))
    · exact hk2
    · show cg P0 (_ * lkb P0 S V) _
      exact (cg.of (by grind)).tr (hB.tr (cg.of (by rw [c3]; grind)))
    · show cg P0 (_ * lka P0 S V) _
      exact (cg.of (by grind)).tr (hA.tr (cg.of (by rw [c4]; grind)))
    · exact hk5
    · show cg P0 (_ * 0) _
      rw [c6, Int.mul_zero]
      exact cg.rf _
    · show cg P0 (_ * 0) _
      rw [c7, Int.mul_zero]
      exact cg.rf _
    · show cg P0 (_ * lkn P0 S V) _
      exact (cg.of (by grind)).tr (hN.tr (cg.of (by rw [c8]; grind)))
  · refine tri_of hdet (fun i hi => ?_) (fun q => absurd q (by decide)) (fun _ => ⟨rfl, by rw [c0, c4], by rw [c1, c3], c6, c7⟩) (Or.inl rfl)
    have hi2 : i < 2 := hi
    rw [← hg]
    show prp _ (g (2 + i)) 3
    have key : ∃ c : Int, ∀ j, j < 3 → pimg (clik9 g) (g i) j = c * g (2 + i) j := by
      rcases (show i = 0 ∨ i = 1 by omega) with rfl | rfl
      · refine ⟨g 0 2 * lsq g * g 3 2, fun j hj => ?_⟩
        rcases (show j = 0 ∨ j = 1 ∨ j = 2 by omega) with rfl | rfl | rfl <;> simp only [pimg, Nat.reduceMul, Nat.reduceAdd, c0, c1, c2, c3, c4, c5, c6, c7, c8, Nat.add_zero] <;> grind
      · refine ⟨g 1 2 * lsq g * g 2 2, fun j hj => ?_⟩
        have s1 : lre g * lfx g - lot g * lfy g = ltx g * lsq g := by unfold lre lot lsq; grind
        have s2 : lot g * lfx g + lre g * lfy g = lty g * lsq g := by unfold lre lot lsq; grind
        have e1 : lfx g = g 1 0 * g 0 2 - g 0 0 * g 1 2 := rfl
        have e2 : lfy g = g 1 1 * g 0 2 - g 0 1 * g 1 2 := rfl
        have e3 : ltx g = g 3 0 * g 2 2 - g 2 0 * g 3 2 := rfl
        have e4 : lty g = g 3 1 * g 2 2 - g 2 1 * g 3 2 := rfl
        rw [e1, e2] at s1 s2
        rw [e3] at s1
        rw [e4] at s2
        rcases (show j = 0 ∨ j = 1 ∨ j = 2 by omega) with rfl | rfl | rfl <;> simp only [pimg, Nat.reduceMul, Nat.reduceAdd, c0, c1, c2, c3, c4, c5, c6, c7, c8]
        · exact lik_at0 s1
        · exact lik_at1 s2
        · grind
    obtain ⟨c, hc⟩ := key
    intro a b ha hb2
    rw [hc a ha, hc b hb2]
    grind
