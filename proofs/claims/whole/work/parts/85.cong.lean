/-! reckoning with remainders -/
def cg (p a b : Int) : Prop := p ∣ a - b
theorem cg.rf {p : Int} (a : Int) : cg p a a := by unfold cg; rw [Int.sub_self]; exact Int.dvd_zero p
theorem cg.sm {p a b : Int} (h : cg p a b) : cg p b a := by
  unfold cg at *
  rw [← Int.neg_sub]
  exact Int.dvd_neg.mpr h
theorem cg.tr {p a b c : Int} (h : cg p a b) (k : cg p b c) : cg p a c := by
  unfold cg at *
  have := Int.dvd_add h k
  rwa [show a - b + (b - c) = a - c by omega] at this
theorem cg.ad {p a b c d : Int} (h : cg p a b) (k : cg p c d) : cg p (a + c) (b + d) := by
  unfold cg at *
  have := Int.dvd_add h k
  rwa [show a - b + (c - d) = a + c - (b + d) by omega] at this
theorem cg.sb {p a b c d : Int} (h : cg p a b) (k : cg p c d) : cg p (a - c) (b - d) := by
  unfold cg at *
  have := Int.dvd_sub h k
  rwa [show a - b - (c - d) = a - c - (b - d) by omega] at this
theorem cg.ml {p a b c d : Int} (h : cg p a b) (k : cg p c d) : cg p (a * c) (b * d) := by
  unfold cg at *
  have h1 : p ∣ (a - b) * c := Int.dvd_mul_of_dvd_left h
  have h2 : p ∣ b * (c - d) := Int.dvd_mul_of_dvd_right k
  have := Int.dvd_add h1 h2
  rwa [show (a - b) * c + b * (c - d) = a * c - b * d by grind] at this
theorem cg.mo {p : Int} (a : Int) : cg p (a % p) a := by
  unfold cg
  have := Int.emod_add_mul_ediv a p
  exact ⟨-(a / p), by rw [Int.mul_neg]; omega⟩
theorem cg.of {p a b : Int} (h : a = b) : cg p a b := by rw [h]; exact cg.rf b
/-- a number that the prime does not divide -/
def pu (p a : Int) : Prop := ¬ p ∣ a
theorem pr_mul {P : Nat} (hp : primeN P) {a b : Int} (h : (P : Int) ∣ a * b) : (P : Int) ∣ a ∨ (P : Int) ∣ b := by
  have h1 : P ∣ a.natAbs * b.natAbs := by
    rw [← Int.natAbs_mul]
    have := Int.natAbs_dvd_natAbs.mpr h
    simpa using this
  by_cases ha : P ∣ a.natAbs
  · exact Or.inl (Int.natAbs_dvd_natAbs.mp (by simpa using ha))
  · right
    have hc : Nat.Coprime P a.natAbs := by
      rcases hp.2 (Nat.gcd P a.natAbs) (Nat.gcd_dvd_left _ _) with q | q
      · exact q
      · exfalso
        apply ha
        have := Nat.gcd_dvd_right P a.natAbs
        rwa [q] at this
    exact Int.natAbs_dvd_natAbs.mp (by simpa using hc.dvd_of_dvd_mul_left h1)
theorem pu_mul {P : Nat} (hp : primeN P) {a b : Int} (ha : pu P a) (hb : pu P b) : pu P (a * b) := fun h => (pr_mul hp h).elim ha hb
theorem pu_l {p a b : Int} (h : pu p (a * b)) : pu p a := fun q => h (Int.dvd_mul_of_dvd_left q)
theorem pu_r {p a b : Int} (h : pu p (a * b)) : pu p b := fun q => h (Int.dvd_mul_of_dvd_right q)
theorem pu_sm {p a : Int} (h0 : a ≠ 0) (h : (a.natAbs : Int) < p) : pu p a := by
  intro q
  have h1 : p.natAbs ∣ a.natAbs := Int.natAbs_dvd_natAbs.mpr q
  have := Nat.le_of_dvd (by omega) h1
  omega
theorem pu_cg {p a b : Int} (h : cg p a b) (ha : pu p a) : pu p b := fun q => ha (by
  have := Int.dvd_add h q
  rwa [show a - b + b = a by omega] at this)
theorem cg_cancel {P : Nat} (hp : primeN P) {a b c : Int} (hc : pu P c) (h : cg P (c * a) (c * b)) : cg P a b := by
  unfold cg at *
  rw [← Int.mul_sub] at h
  exact (pr_mul hp h).resolve_left hc
theorem cg_eq {p a b : Int} (h : cg p a b) (hs : ((a - b).natAbs : Int) < p) : a = b := by
  apply Classical.byContradiction
  intro q
  exact pu_sm (p := p) (show a - b ≠ 0 by omega) hs h
theorem cg_0 {p a : Int} (ha : 0 ≤ a ∧ a < p) (h : p ∣ a) : a = 0 := by
  apply Classical.byContradiction
  intro q
  exact pu_sm q (by omega) h
theorem cg_inv {P : Nat} (hp : primeN P) {z : Int} (hz : pu P z) : cg P (z * invp P z) 1 := by
  have h2 := hp.1
  have hm : 0 < z % (P : Int) := by
    have h1 := Int.emod_nonneg z (show (P : Int) ≠ 0 by omega)
    apply Classical.byContradiction
    intro q
    exact hz (Int.dvd_of_emod_eq_zero (by omega))
  have hl := Int.emod_lt_of_pos z (show (0 : Int) < P by omega)
  have h := pinv_of hp (z % P) hm hl
  have e : invp P (z % P) = invp P z := by
    unfold invp
    rw [Int.emod_emod_of_dvd _ (Int.dvd_refl _)]
  rw [e] at h
  have h3 : cg P (z % P * invp P z) 1 := (cg.mo _).sm.tr (cg.of h)
  exact ((cg.mo z).sm.ml (cg.rf _)).tr h3
theorem pu_inv {P : Nat} (hp : primeN P) {z : Int} (hz : pu P z) : pu P (invp P z) := by
  have h := cg_inv hp hz
  have h1 : pu P (1 : Int) := pu_sm (by decide) (by have := hp.1; show ((1 : Nat) : Int) < P; omega)
  exact pu_r (pu_cg h.sm h1)
/-- two squares -/
theorem cg_pow {p a b : Int} (h : cg p a b) : ∀ n : Nat, cg p (a ^ n) (b ^ n)
  | 0 => by rw [Int.pow_zero, Int.pow_zero]; exact cg.rf _
  | n + 1 => by
    rw [Int.pow_succ, Int.pow_succ]
    exact (cg_pow h n).ml h
theorem fermatI {P : Nat} (hp : primeN P) {z : Int} (hz : pu P z) : cg P (z ^ (P - 1)) 1 := by
  have h2 := hp.1
  obtain ⟨a, ha, hl, hc⟩ : ∃ a : Nat, 0 < a ∧ a < P ∧ cg P z a := by
    have h1 := Int.emod_nonneg z (show (P : Int) ≠ 0 by omega)
    have hl := Int.emod_lt_of_pos z (show (0 : Int) < P by omega)
    refine ⟨(z % P).toNat, ?_, by omega, ?_⟩
    · apply Classical.byContradiction
      intro q
      exact hz (Int.dvd_of_emod_eq_zero (by omega))
    · rw [Int.toNat_of_nonneg h1]
      exact (cg.mo z).sm
  refine (cg_pow hc _).tr ?_
  have hf := fermat1 hp ha hl
  rw [← Int.natCast_pow]
  refine (cg.mo (p := P) _).sm.tr (cg.of ?_)
  rw [← Int.natCast_emod, hf]
  rfl
theorem two_sq {P : Nat} (hp : primeN P) {k : Nat} (hk : P - 1 = 2 * (2 * k + 1)) (h2 : 2 < P) {a b : Int} (h : (P : Int) ∣ a * a + b * b) : (P : Int) ∣ a ∧ (P : Int) ∣ b := by
  have hb : (P : Int) ∣ b := by
    apply Classical.byContradiction
    intro hb
    have ha : pu P a := by
      intro ha
      apply hb
      have h1 := Int.dvd_sub h (show (P : Int) ∣ a * a from Int.dvd_mul_of_dvd_left ha)
      rw [show a * a + b * b - a * a = b * b by omega] at h1
      rcases pr_mul hp h1 with q | q <;> exact q
    have hc : cg P (a * a) (-(b * b)) := by
      unfold cg
      rw [show a * a - -(b * b) = a * a + b * b by omega]
      exact h
    have h1 := cg_pow hc (2 * k + 1)
    have ea : (a * a) ^ (2 * k + 1) = a ^ (P - 1) := by rw [hk, Int.pow_mul]; congr 1; rw [Int.pow_succ, Int.pow_succ]; simp
    have eb : (-(b * b)) ^ (2 * k + 1) = -(b ^ (P - 1)) := by
      rw [Int.neg_pow, hk, Int.pow_mul, show b ^ 2 = b * b by rw [Int.pow_succ, Int.pow_succ]; simp]
      rw [show (2 * k + 1) % 2 = 1 by omega]
      simp
    rw [ea, eb] at h1
    have f1 := fermatI hp ha
    have f2 := fermatI hp hb
    have h3 : cg P (1 : Int) (-1) := f1.sm.tr (h1.tr (by
      have := (cg.rf (p := (P : Int)) 0).sb f2
      simpa using this))
    have : (P : Int) ∣ 2 := by
      have h4 : (P : Int) ∣ 1 - -1 := h3
      exact h4
    have := Int.le_of_dvd (by decide) this
    omega
  refine ⟨?_, hb⟩
  have h1 := Int.dvd_sub h (show (P : Int) ∣ b * b from Int.dvd_mul_of_dvd_left hb)
  rw [show a * a + b * b - b * b = a * a by omega] at h1
  rcases pr_mul hp h1 with q | q <;> exact q
