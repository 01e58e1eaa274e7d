/-! what the remainders tell is found -/
theorem cen_eq {p m n : Int} (hp : 1000000 < p) (hm : 0 ≤ m ∧ m < p) (hn : -500 ≤ n ∧ n ≤ 500) (h : cg p m n) : cen p m = n := by
  have key : m = n ∨ m = n + p := by
    obtain ⟨k, hk⟩ := h
    have h1 : k = 0 ∨ k = 1 := by
      rcases (show k ≤ -1 ∨ k = 0 ∨ k = 1 ∨ 2 ≤ k by omega) with q | q | q | q
      · have : p * k ≤ p * -1 := Int.mul_le_mul_of_nonneg_left q (by omega)
        omega
      · exact Or.inl q
      · exact Or.inr q
      · have : p * 2 ≤ p * k := Int.mul_le_mul_of_nonneg_left q (by omega)
        omega
    rcases h1 with q | q
    · rw [q, Int.mul_zero] at hk; omega
    · rw [q, Int.mul_one] at hk; omega
  unfold cen
  rcases key with q | q
  · rw [if_neg (by omega)]; exact q
  · rw [if_pos (by omega)]; omega
theorem cen_cg {p m : Int} : cg p (cen p m) m := by
  unfold cen
  split
  · unfold cg
    exact ⟨-1, by omega⟩
  · exact cg.rf _
theorem smv_some {p v d0 : Int} (h : -500 ≤ cen p (v * d0 % p) ∧ cen p (v * d0 % p) ≤ 500) : ∀ (f : Nat) (d : Int), d ≤ d0 → d0 < d + f → ∃ n e, smv p v f d = some (n, e) ∧ e ≤ d0
  | 0, d, h1, h2 => by omega
  | f + 1, d, h1, h2 => by
    unfold smv
    by_cases hc : -500 ≤ cen p (v * d % p) ∧ cen p (v * d % p) ≤ 500
    · rw [if_pos hc]
      exact ⟨_, _, rfl, h1⟩
    · rw [if_neg hc]
      have hne : d ≠ d0 := fun q => hc (by rw [q]; exact h)
      exact smv_some h f (d + 1) (by omega) (by omega)
/-- the fraction behind one remainder -/
theorem smv_frac {P : Nat} (hp : primeN P) (hb : 1000000 < P) {v a b : Int} (ha : ab a 500) (hbb : ab b 500) (hb0 : b ≠ 0) (h : cg P (v * b) a) : ∃ n e, smv P v 500 1 = some (n, e) ∧ 1 ≤ e ∧ e ∣ b ∧ n * b = e * a := by
  have hpb : pu P b := pu_sm hb0 (by have := hbb.1; have := hbb.2; omega)
  obtain ⟨g, hg⟩ : ∃ g : Nat, g = Nat.gcd a.natAbs b.natAbs := ⟨_, rfl⟩
  have hg0 : 0 < g := by rw [hg]; exact Nat.gcd_pos_of_pos_right _ (by omega)
  obtain ⟨a1, ha1⟩ : g ∣ a.natAbs := by rw [hg]; exact Nat.gcd_dvd_left _ _
  obtain ⟨b1, hb1⟩ : g ∣ b.natAbs := by rw [hg]; exact Nat.gcd_dvd_right _ _
  have hcop : Nat.Coprime b1 a1 := by
    have h1 : Nat.gcd (g * a1) (g * b1) = g := by rw [← ha1, ← hb1]; exact hg.symm
    rw [Nat.gcd_mul_left] at h1
    have h2 : Nat.gcd a1 b1 = 1 := Nat.eq_of_mul_eq_mul_left hg0 (by rw [h1, Nat.mul_one])
    rw [Nat.gcd_comm] at h2
    exact h2
  have hb1p : 0 < b1 := by
    apply Nat.pos_of_ne_zero
    intro q
    rw [q, Nat.mul_zero] at hb1
    omega
  have hb1l : b1 ≤ b.natAbs := by rw [hb1]; exact Nat.le_mul_of_pos_left _ hg0
  have ha1l : a1 ≤ a.natAbs := by rw [ha1]; exact Nat.le_mul_of_pos_left _ hg0
  -- the least fraction
  obtain ⟨n0, hn0, hn1⟩ : ∃ n0 : Int, n0 * b = (b1 : Int) * a ∧ n0.natAbs = a1 := by
    have hbb : b = ((g * b1 : Nat) : Int) ∨ b = -((g * b1 : Nat) : Int) := by rw [← hb1]; omega
    have haa : a = ((g * a1 : Nat) : Int) ∨ a = -((g * a1 : Nat) : Int) := by rw [← ha1]; omega
    rcases hbb with q | q <;> rcases haa with w | w
    · exact ⟨a1, by rw [q, w, Int.natCast_mul, Int.natCast_mul]; grind, by omega⟩
    · exact ⟨-a1, by rw [q, w, Int.natCast_mul, Int.natCast_mul]; grind, by omega⟩
    · exact ⟨-a1, by rw [q, w, Int.natCast_mul, Int.natCast_mul]; grind, by omega⟩
    · exact ⟨a1, by rw [q, w, Int.natCast_mul, Int.natCast_mul]; grind, by omega⟩
  have hab := ha.1
  have hab2 := ha.2
  have hbb1 := hbb.1
  have hbb2 := hbb.2
  have hc0 : cg P (v * b1) n0 := by
    refine cg_cancel hp hpb ?_
    have h1 := h.ml (cg.rf (p := (P : Int)) (b1 : Int))
    rw [show b * (v * b1) = v * b * b1 by grind, show b * n0 = a * b1 by grind]
    exact h1
  have hm := Int.emod_nonneg (v * b1) (show (P : Int) ≠ 0 by omega)
  have hl := Int.emod_lt_of_pos (v * b1) (show (0 : Int) < P by omega)
  have hce : cen P (v * b1 % P) = n0 := cen_eq (by omega) ⟨hm, hl⟩ (by omega) ((cg.mo _).tr hc0)
  obtain ⟨n, e, hs, he⟩ := smv_some (p := P) (v := v) (d0 := b1) (by rw [hce]; omega) 500 1 (by omega) (by omega)
  obtain ⟨k1, k2, k3, k4⟩ := smv_in hs
  have hcn : cg P n (v * e) := by rw [k4]; exact cen_cg.tr (cg.mo _)
  have hex : n * b = e * a := by
    refine cg_eq (p := P) ?_ ?_
    · have h1 := hcn.ml (cg.rf (p := (P : Int)) b)
      refine h1.tr ?_
      have h2 := h.ml (cg.rf (p := (P : Int)) e)
      rw [show v * e * b = v * b * e by grind, show e * a = a * e by grind]
      exact h2
    · have h1 := ab_sub (ab_mul (show ab n 500 from k1) hbb) (ab_mul (show ab e 500 from ⟨by omega, by omega⟩) ha)
      have h2 := ab_nat.mp h1
      omega
  refine ⟨n, e, hs, k2, ?_, hex⟩
  -- e is the least one
  have hdv : b1 ∣ e.natAbs := by
    have h1 : n.natAbs * b.natAbs = e.natAbs * a.natAbs := by rw [← Int.natAbs_mul, ← Int.natAbs_mul, hex]
    rw [ha1, hb1, ← Nat.mul_assoc, ← Nat.mul_assoc, Nat.mul_comm n.natAbs, Nat.mul_comm e.natAbs, Nat.mul_assoc, Nat.mul_assoc] at h1
    have h2 := Nat.eq_of_mul_eq_mul_left hg0 h1
    exact hcop.dvd_of_dvd_mul_right ⟨n.natAbs, by rw [← h2]; exact Nat.mul_comm _ _⟩
  have hle := Nat.le_of_dvd (by omega) hdv
  have hee : e = b1 := by omega
  rw [hee]
  have h5 : b1 ∣ b.natAbs := by rw [hb1]; exact Nat.dvd_mul_left _ _
  exact Int.natAbs_dvd_natAbs.mp (by simpa using h5)
theorem lcmv_nat (A E : Nat) : lcmv (A : Int) (E : Int) = ((Nat.lcm A E : Nat) : Int) := by
  unfold lcmv
  rw [Int.gcd_natCast_natCast, ← Int.natCast_ediv, ← Int.natCast_mul]
  congr 1
  unfold Nat.lcm
  obtain ⟨k, hk⟩ := Nat.gcd_dvd_left A E
  by_cases h0 : Nat.gcd A E = 0
  · rw [h0]; simp
  · have hp : 0 < Nat.gcd A E := by omega
    generalize Nat.gcd A E = g at *
    rw [hk, Nat.mul_div_cancel_left _ hp, Nat.mul_assoc, Nat.mul_div_cancel_left _ hp]
theorem telA_ok {F : Nat → Option (Int × Int)} {B : Nat} (hB : B ≤ 500) (hB0 : 0 < B) : ∀ (d i : Nat) (A : Nat), 0 < A → A ∣ B → (∀ j, i ≤ j → j < i + d → ∃ (n : Int) (E : Nat), F j = some (n, (E : Int)) ∧ 0 < E ∧ E ∣ B) → ∃ A' : Nat, telA F d i (A : Int) = some (A' : Int) ∧ 0 < A' ∧ A' ∣ B ∧ A ∣ A' ∧ ∀ j n (E : Nat), i ≤ j → j < i + d → F j = some (n, (E : Int)) → E ∣ A'
  | 0, i, A, h0, h1, h2 => ⟨A, rfl, h0, h1, Nat.dvd_refl A, fun j n E h3 h4 => by omega⟩
  | d + 1, i, A, h0, h1, h2 => by
    obtain ⟨n, E, e1, e2, e3⟩ := h2 i (by omega) (by omega)
    have hl : Nat.lcm A E ∣ B := Nat.lcm_dvd h1 e3
    have hlp : 0 < Nat.lcm A E := Nat.lcm_pos h0 e2
    obtain ⟨A', r1, r2, r3, r4, r5⟩ := telA_ok hB hB0 d (i + 1) (Nat.lcm A E) hlp hl (fun j h3 h4 => h2 j (by omega) (by omega))
    refine ⟨A', ?_, r2, r3, Nat.dvd_trans (Nat.dvd_lcm_left A E) r4, fun j n' E' h3 h4 h5 => ?_⟩
    · unfold telA
      rw [e1]
      dsimp only
      rw [lcmv_nat, if_neg (by have := Nat.le_of_dvd hB0 hl; omega)]
      exact r1
    · by_cases hj : j = i
      · subst hj
        rw [e1] at h5
        have h6 := Option.some.inj h5
        have h7 : (E : Int) = E' := (Prod.mk.inj h6).2
        have h8 : E = E' := by omega
        rw [← h8]
        exact Nat.dvd_trans (Nat.dvd_lcm_right A E) r4
      · exact r5 j n' E' (by omega) (by omega) h5
theorem tel_ok {P : Nat} (hp : primeN P) (hbig : 1000000 < P) {t T : Nat → Int} (ht : ∀ i, i < 9 → 0 ≤ t i ∧ t i < P) (hdet : pu P (det9 T)) (hfit : fit T 9 9 = true) {W C : Int} (hW : pu P W) (hC : pu P C) (h : ∀ i, i < 9 → cg P (W * t i) (C * T i)) : telV P t = some (lrow T 9) := by
  have hT0 : det9 T ≠ 0 := fun q => hdet (by rw [q]; exact Int.dvd_zero _)
  have hgT := det_ne hT0
  obtain ⟨L, hL⟩ : ∃ L : Nat → Int, L = lst T 9 := ⟨_, rfl⟩
  obtain ⟨G, hG⟩ : ∃ G : Int, G = ((gN T 9 : Nat) : Int) * sN T 9 := ⟨_, rfl⟩
  have hTL : ∀ i, i < 9 → T i = G * L i := fun i hi => by rw [hG, hL]; exact lst_mul hi
  have hLb : ∀ i, i < 9 → ab (L i) 500 := fun i hi => by rw [hL]; exact fit_le hfit i hi
  have hG9 : pu P G := by
    have : det9 T = G * G * G * det9 L := by rw [det9_congr hTL, det9_scale]
    rw [this] at hdet
    exact pu_r (pu_l hdet)
  have hCG := pu_mul hp hC hG9
  have h2 : ∀ i, i < 9 → cg P (W * t i) (C * G * L i) := fun i hi => by
    rw [Int.mul_assoc, ← hTL i hi]
    exact h i hi
  have hsm : ∀ i, i < 9 → L i ≠ 0 → pu P (L i) := fun i hi h0 => pu_sm h0 (by have := (hLb i hi).1; have := (hLb i hi).2; omega)
  have hz1 : ∀ i, i < 9 → t i = 0 → L i = 0 := fun i hi h0 => by
    apply Classical.byContradiction
    intro q
    have h3 := h2 i hi
    rw [h0, Int.mul_zero] at h3
    exact pu_mul hp hCG (hsm i hi q) (by
      have h4 : (P : Int) ∣ C * G * L i - 0 := h3.sm
      rwa [Int.sub_zero] at h4)
  have hz2 : ∀ i, i < 9 → L i = 0 → t i = 0 := fun i hi h0 => by
    have h3 := h2 i hi
    rw [h0, Int.mul_zero] at h3
    have h4 : (P : Int) ∣ W * t i - 0 := h3
    rw [Int.sub_zero] at h4
    exact cg_0 (ht i hi) ((pr_mul hp h4).resolve_left hW)
  have hlea := lst_lea hgT
  rw [← hL] at hlea
  obtain ⟨f0, q1, -, q3, -⟩ := fN_ex (show fN L 9 ≠ 0 by have := hlea.2; omega)
  unfold telV
  cases hf : fnd (nzB t) 9 0 with
  | none =>
    exfalso
    have := fnd_no hf f0 (by omega) (by omega)
    unfold nzB at this
    have h3 : t f0 = 0 := by simpa using this
    exact q3 (hz1 f0 q1 h3)
  | some f =>
    obtain ⟨-, f2, f3⟩ := fnd_lt hf
    have hf9 : f < 9 := by omega
    unfold nzB at f3
    have htf : t f ≠ 0 := by simpa using f3
    have hLf : L f ≠ 0 := fun q => htf (hz2 f hf9 q)
    have hptf : pu P (t f) := pu_sm htf (by have := ht f hf9; omega)
    have hby := cg_inv hp hptf
    dsimp only
    generalize invp (P : Int) (t f) = b at *
    have hv : ∀ i, i < 9 → cg P (t i * b % P * L f) (L i) := by
      intro i hi
      refine cg_cancel hp hW ?_
      have e1 : cg P (W * (t i * b % P * L f)) (W * (t i * b * L f)) := (cg.rf W).ml ((cg.mo _).ml (cg.rf _))
      have e2 : cg P (W * (t i * b * L f)) (C * G * L i * (b * L f)) := by
        rw [show W * (t i * b * L f) = W * t i * (b * L f) by grind]
        exact (h2 i hi).ml (cg.rf _)
      have e3 : cg P (W * L i) (C * G * L f * (b * L i)) := by
        have e4 : cg P (W * L i) (W * (t f * b) * L i) := ((cg.of (Int.mul_one W).symm).tr ((cg.rf W).ml hby.sm)).ml (cg.rf _)
        refine e4.tr ?_
        rw [show W * (t f * b) * L i = W * t f * (b * L i) by grind]
        exact (h2 f hf9).ml (cg.rf _)
      refine e1.tr (e2.tr (e3.tr (cg.of ?_)).sm)
      grind
    have hF : ∀ i, i < 9 → ∃ (n : Int) (E : Nat), telF P t b i = some (n, (E : Int)) ∧ 0 < E ∧ E ∣ (L f).natAbs ∧ n * L f = E * L i := by
      intro i hi
      unfold telF
      by_cases h0 : t i = 0
      · rw [if_pos h0]
        exact ⟨0, 1, rfl, by omega, Nat.one_dvd _, by rw [hz1 i hi h0]; simp⟩
      · rw [if_neg h0]
        obtain ⟨n, e, s1, s2, s3, s4⟩ := smv_frac hp hbig (hLb i hi) (hLb f hf9) hLf (hv i hi)
        obtain ⟨E, rfl⟩ : ∃ E : Nat, e = E := ⟨e.toNat, by omega⟩
        exact ⟨n, E, s1, by omega, by have := Int.natAbs_dvd_natAbs.mpr s3; simpa using this, s4⟩
    have hLf5 := hLb f hf9
    have hl1 := hLf5.1
    have hl2 := hLf5.2
    obtain ⟨A, r1, r2, r3, -, r5⟩ := telA_ok (F := telF P t b) (B := (L f).natAbs) (by omega) (by omega) 9 0 1 (by omega) (Nat.one_dvd _) (fun j _ hj => by
      obtain ⟨n, E, s1, s2, s3, -⟩ := hF j (by omega)
      exact ⟨n, E, s1, s2, s3⟩)
    have r1' : telA (telF P t b) 9 0 1 = some (A : Int) := r1
    rw [r1']
    dsimp only
    have hZ : ∀ i, i < 9 → telZ (telF P t b) A i * L f = L i * A := by
      intro i hi
      obtain ⟨n, E, s1, s2, s3, s4⟩ := hF i hi
      obtain ⟨k, hk⟩ := r5 i n E (by omega) (by omega) s1
      unfold telZ telN telD
      rw [s1]
      dsimp only
      rw [hk, Int.natCast_mul, Int.mul_ediv_cancel_left _ (by omega)]
      grind
    have hprp : prp (telZ (telF P t b) A) T 9 := by
      intro i j hi hj
      refine Int.eq_of_mul_eq_mul_right hLf ?_
      rw [hTL i hi, hTL j hj]
      have z1 := hZ i hi
      have z2 := hZ j hj
      generalize telZ (telF (P : Int) t b) A i = zi at *
      generalize telZ (telF (P : Int) t b) A j = zj at *
      grind
    have hgZ : gN (telZ (telF P t b) A) 9 ≠ 0 := by
      refine gN_ne hf9 ?_
      intro q
      have z1 := hZ f hf9
      rw [q, Int.zero_mul] at z1
      rcases Int.mul_eq_zero.mp z1.symm with w | w
      · exact hLf w
      · omega
    have hlst := prp_lst hgZ hgT hprp
    rw [fit_lst hlst (Nat.le_refl 9), if_pos hfit, lrow_lst hlst]
