def chs : Nat → Nat → Nat
  | _, 0 => 1
  | 0, _ + 1 => 0
  | n + 1, k + 1 => chs n k + chs n (k + 1)
theorem chs_0 (n : Nat) : chs n 0 = 1 := by cases n <;> rfl
theorem chs_s (n k : Nat) : chs (n + 1) (k + 1) = chs n k + chs n (k + 1) := rfl
theorem chs_z (k : Nat) : chs 0 (k + 1) = 0 := rfl
theorem chs_big : ∀ (n k : Nat), n < k → chs n k = 0
  | 0, 0, h => by omega
  | 0, k + 1, h => rfl
  | n + 1, 0, h => by omega
  | n + 1, k + 1, h => by rw [chs_s, chs_big n k (by omega), chs_big n (k + 1) (by omega)]
theorem chs_self : ∀ n : Nat, chs n n = 1
  | 0 => rfl
  | n + 1 => by rw [chs_s, chs_self n, chs_big n (n + 1) (by omega)]
theorem chs_abs : ∀ (n k : Nat), (k + 1) * chs (n + 1) (k + 1) = (n + 1) * chs n k
  | 0, 0 => rfl
  | 0, k + 1 => by rw [chs_s, chs_z, chs_z]; simp
  | n + 1, 0 => by
    have := chs_abs n 0
    rw [chs_0] at this
    rw [chs_s, chs_0]
    omega
  | n + 1, k + 1 => by
    have h1 := chs_abs n k
    have h2 := chs_abs n (k + 1)
    rw [chs_s (n + 1) (k + 1)]
    have h3 := chs_s n k
    rw [Nat.mul_add, h2]
    have e1 : (k + 1 + 1) * chs (n + 1) (k + 1) = (k + 1) * chs (n + 1) (k + 1) + chs (n + 1) (k + 1) := by rw [Nat.add_mul (k + 1) 1, Nat.one_mul]
    have e2 : (n + 1 + 1) * chs (n + 1) (k + 1) = (n + 1) * chs (n + 1) (k + 1) + chs (n + 1) (k + 1) := by rw [Nat.add_mul (n + 1) 1, Nat.one_mul]
    have e3 : (n + 1) * chs (n + 1) (k + 1) = (n + 1) * chs n k + (n + 1) * chs n (k + 1) := by rw [h3, Nat.mul_add]
    omega
def bsm (a n : Nat) : Nat → Nat
  | 0 => 0
  | m + 1 => bsm a n m + chs n m * a ^ m
theorem bsm_s (a n : Nat) : ∀ m, bsm a (n + 1) (m + 1) = a * bsm a n m + bsm a n (m + 1)
  | 0 => by
    show 0 + chs (n + 1) 0 * a ^ 0 = a * 0 + (0 + chs n 0 * a ^ 0)
    rw [chs_0, chs_0]
    omega
  | m + 1 => by
    show bsm a (n + 1) (m + 1) + chs (n + 1) (m + 1) * a ^ (m + 1) = a * (bsm a n m + chs n m * a ^ m) + (bsm a n (m + 1) + chs n (m + 1) * a ^ (m + 1))
    rw [bsm_s a n m, chs_s, Nat.add_mul, Nat.mul_add]
    have : chs n m * a ^ (m + 1) = a * (chs n m * a ^ m) := by rw [Nat.pow_succ, ← Nat.mul_assoc, Nat.mul_comm]
    omega
theorem binom (a : Nat) : ∀ n, (a + 1) ^ n = bsm a n (n + 1)
  | 0 => rfl
  | n + 1 => by
    rw [bsm_s, Nat.pow_succ, binom a n]
    show _ = a * bsm a n (n + 1) + (bsm a n (n + 1) + chs n (n + 1) * a ^ (n + 1))
    rw [chs_big n (n + 1) (by omega), Nat.zero_mul, Nat.mul_add, Nat.mul_one, Nat.mul_comm]
    omega
theorem prime_cop {p : Nat} (hp : primeN p) {k : Nat} (h0 : 0 < k) (h1 : k < p) : Nat.Coprime p k := by
  rcases hp.2 (Nat.gcd p k) (Nat.gcd_dvd_left p k) with h | h
  · exact h
  · exfalso
    have : p ∣ k := by rw [← h]; exact Nat.gcd_dvd_right p k
    have := Nat.le_of_dvd h0 this
    omega
theorem prime_chs {p : Nat} (hp : primeN p) {k : Nat} (h0 : 0 < k) (h1 : k < p) : p ∣ chs p k := by
  obtain ⟨q, rfl⟩ : ∃ q, p = q + 1 := ⟨p - 1, by have := hp.1; omega⟩
  obtain ⟨j, rfl⟩ : ∃ j, k = j + 1 := ⟨k - 1, by omega⟩
  have h := chs_abs q j
  exact (prime_cop hp h0 h1).dvd_of_dvd_mul_left ⟨chs q j, h⟩
theorem bsm_mod {p : Nat} (hp : primeN p) (a : Nat) : ∀ m, 1 ≤ m → m ≤ p → bsm a p m % p = 1 % p
  | 0, h, _ => by omega
  | 1, _, _ => by
    show (0 + chs p 0 * a ^ 0) % p = 1 % p
    rw [chs_0]
    simp
  | m + 2, _, h2 => by
    show (bsm a p (m + 1) + chs p (m + 1) * a ^ (m + 1)) % p = 1 % p
    obtain ⟨c, hc⟩ := prime_chs hp (k := m + 1) (by omega) (by omega)
    rw [hc, Nat.mul_assoc, Nat.add_mul_mod_self_left]
    exact bsm_mod hp a (m + 1) (by omega) (by omega)
theorem fermat {p : Nat} (hp : primeN p) : ∀ a : Nat, a ^ p % p = a % p
  | 0 => by
    rw [Nat.zero_pow (by have := hp.1; omega)]
  | a + 1 => by
    rw [binom]
    show (bsm a p p + chs p p * a ^ p) % p = (a + 1) % p
    rw [chs_self, Nat.one_mul, Nat.add_mod, bsm_mod hp a p (by have := hp.1; omega) (Nat.le_refl p), fermat hp a, ← Nat.add_mod, Nat.add_comm]
theorem fermat1 {p : Nat} (hp : primeN p) {a : Nat} (h0 : 0 < a) (h1 : a < p) : a ^ (p - 1) % p = 1 := by
  have h2 := hp.1
  have hf := fermat hp a
  have e : a ^ p = a * a ^ (p - 1) := by
    conv => lhs; rw [show p = (p - 1) + 1 by omega]
    rw [Nat.pow_succ, Nat.mul_comm]
  have hpos : 0 < a ^ (p - 1) := Nat.pow_pos h0
  have hd : p ∣ a * (a ^ (p - 1) - 1) := by
    rw [Nat.mul_sub, Nat.mul_one, ← e]
    exact Nat.dvd_of_mod_eq_zero (Nat.sub_mod_eq_zero_of_mod_eq hf)
  have hd2 := (prime_cop hp h0 h1).dvd_of_dvd_mul_left hd
  have h3 : a ^ (p - 1) = (a ^ (p - 1) - 1) + 1 := by omega
  obtain ⟨c, hc⟩ := hd2
  rw [h3, hc, Nat.mul_add_mod]
  exact Nat.mod_eq_of_lt (by omega)
theorem pinv_of {P : Nat} (hp : primeN P) : pinv (P : Int) := by
  intro x h0 h1
  obtain ⟨a, rfl⟩ : ∃ a : Nat, x = a := ⟨x.toNat, by omega⟩
  unfold invp
  have h2 := hp.1
  have e1 : ((a : Int) % (P : Int)) = a := Int.emod_eq_of_lt (by omega) h1
  have e2 : ((P : Int) - 2).toNat = P - 2 := by omega
  rw [e1, e2, Int.mul_emod, Int.emod_emod_of_dvd _ (Int.dvd_refl _), ← Int.mul_emod]
  have e3 : (a : Int) * (a : Int) ^ (P - 2) = ((a ^ (P - 1) : Nat) : Int) := by
    rw [show P - 1 = (P - 2) + 1 by omega, Nat.pow_succ, Int.natCast_mul, Int.natCast_pow, Int.mul_comm]
  rw [e3, ← Int.natCast_emod, fermat1 hp (by omega) (by omega)]
  rfl
theorem prm_prime (k : Nat) (hk : k < 3) : ∃ P : Nat, prm k = P ∧ primeN P := by
  rcases (show k = 0 ∨ k = 1 ∨ k = 2 by omega) with rfl | rfl | rfl
  · exact ⟨2147483647, rfl, p0⟩
  · exact ⟨2147483629, rfl, p1⟩
  · exact ⟨2147483587, rfl, p2⟩
theorem prm_inv (k : Nat) (hk : k < 3) : pinv (prm k) := by
  obtain ⟨P, e, hp⟩ := prm_prime k hk
  rw [e]
  exact pinv_of hp
