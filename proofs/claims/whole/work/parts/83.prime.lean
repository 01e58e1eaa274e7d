/-! primes, and Fermat's remark -/
def chkP (p : Nat) : Nat → Nat → Bool
  | 0, s => Nat.beq (p % s) 0 == false
  | k + 1, s => chkP p k s && chkP p k (s + 2 ^ k)
theorem chkP_ok {p : Nat} : ∀ {k s : Nat}, chkP p k s = true → ∀ d, s ≤ d → d < s + 2 ^ k → p % d ≠ 0
  | 0, s, h, d, h1, h2 => by
    have : d = s := by
      have : 2 ^ 0 = 1 := rfl
      omega
    subst this
    intro q
    unfold chkP at h
    rw [q] at h
    exact absurd h (by decide)
  | k + 1, s, h, d, h1, h2 => by
    unfold chkP at h
    have h3 : chkP p k s = true ∧ chkP p k (s + 2 ^ k) = true := by simpa using h
    have : 2 ^ (k + 1) = 2 ^ k + 2 ^ k := by rw [Nat.pow_succ]; omega
    by_cases hd : d < s + 2 ^ k
    · exact chkP_ok h3.1 d h1 hd
    · exact chkP_ok h3.2 d (by omega) (by omega)
def primeN (p : Nat) : Prop := 2 ≤ p ∧ ∀ d, d ∣ p → d = 1 ∨ d = p
theorem prime_of {p : Nat} (h2 : 2 ≤ p) (hb : p < 65537 * 65537) (h : chkP p 16 2 = true) (hbig : 65537 < p) : primeN p := by
  have key : ∀ d, 2 ≤ d → d < 65538 → ¬ d ∣ p := fun d h1 h3 q => chkP_ok h d h1 (by
    have : 2 ^ 16 = 65536 := rfl
    omega) (Nat.mod_eq_zero_of_dvd q)
  refine ⟨h2, fun d hd => ?_⟩
  obtain ⟨e, he⟩ := hd
  have hd0 : d ≠ 0 := fun q => by rw [q, Nat.zero_mul] at he; omega
  have he0 : e ≠ 0 := fun q => by rw [q, Nat.mul_zero] at he; omega
  by_cases h1 : d = 1
  · exact Or.inl h1
  by_cases h3 : e = 1
  · rw [h3, Nat.mul_one] at he; exact Or.inr he.symm
  exfalso
  by_cases hl : d < 65538
  · exact key d (by omega) hl ⟨e, he⟩
  · by_cases hl2 : e < 65538
    · exact key e (by omega) hl2 ⟨d, by rw [he, Nat.mul_comm]⟩
    · have : 65538 * 65538 ≤ d * e := Nat.mul_le_mul (by omega) (by omega)
      omega
theorem p0 : primeN 2147483647 := prime_of (by decide) (by decide) (by decide +kernel) (by decide)
theorem p1 : primeN 2147483629 := prime_of (by decide) (by decide) (by decide +kernel) (by decide)
theorem p2 : primeN 2147483587 := prime_of (by decide) (by decide) (by decide +kernel) (by decide)
