/-! LEAST rows -/
def gN (z : Nat → Int) : Nat → Nat
  | 0 => 0
  | k + 1 => Int.gcd (gN z k) (z k)
def fN (z : Nat → Int) : Nat → Int
  | 0 => 0
  | k + 1 => if fN z k = 0 then z k else fN z k
def sN (z : Nat → Int) (n : Nat) : Int := if fN z n < 0 then -1 else 1
def lst (z : Nat → Int) (n i : Nat) : Int := (z i).tdiv (gN z n) * sN z n
def fit (z : Nat → Int) (n : Nat) : Nat → Bool
  | 0 => true
  | k + 1 => fit z n k && decide (-500 ≤ lst z n k ∧ lst z n k ≤ 500)
def bI (b : Bool) : Int32 := match b with
  | true => 1
  | false => 0
theorem bI_nar (b : Bool) : narrow .boolean (.int (bI b)) = .int (bI b) := by cases b <;> rfl
theorem bI_0 {b : Bool} : bI b = 0 ↔ b = false := by cases b <;> decide
theorem gN_jr {z : Nat → Int} : ∀ {n : Nat}, (∀ i, i < n → jr (z i)) → jr (gN z n)
  | 0, _ => ⟨by simp [gN], by simp [gN]⟩
  | n + 1, h => by
    have h1 := gN_jr (z := z) (n := n) (fun i hi => h i (by omega))
    have h2 := h n (by omega)
    have e : gN z (n + 1) = Nat.gcd (gN z n) (z n).natAbs := rfl
    have h4 : Nat.gcd (gN z n) (z n).natAbs < 9223372036854775808 := by
      by_cases h0 : gN z n = 0
      · rw [h0, Nat.gcd_zero_left]
        have := h2.1; have := h2.2
        omega
      · have := Nat.gcd_le_left (z n).natAbs (Nat.pos_of_ne_zero h0)
        have := h1.2
        omega
    rw [e]
    exact ⟨by omega, by omega⟩
theorem fN_jr {z : Nat → Int} : ∀ {n : Nat}, (∀ i, i < n → jr (z i)) → jr (fN z n)
  | 0, _ => ⟨by simp [fN], by simp [fN]⟩
  | n + 1, h => by
    have h1 := fN_jr (z := z) (n := n) (fun i hi => h i (by omega))
    have h2 := h n (by omega)
    unfold fN
    split
    · exact h2
    · exact h1
theorem sN_or (z : Nat → Int) (n : Nat) : sN z n = -1 ∨ sN z n = 1 := by
  unfold sN
  split
  · exact Or.inl rfl
  · exact Or.inr rfl
theorem tdiv_jr {a b : Int} (ha : jr a) : jr (a.tdiv b) := by
  have h1 := Int.natAbs_tdiv_le_natAbs a b
  have := ha.1
  have := ha.2
  constructor <;> omega
theorem lst_jr {z : Nat → Int} {n i : Nat} (h : jr (z i)) : jr (lst z n i) := by
  have h1 := tdiv_jr (b := (gN z n : Int)) h
  unfold lst
  rcases sN_or z n with e | e <;> rw [e]
  · have := h1.1; have := h1.2
    constructor <;> omega
  · have := h1.1; have := h1.2
    constructor <;> omega
theorem zl_of (x : Int64) : zl x.toInt = x := Int64.ofInt_toInt x
def oGcd : xH := fun st G K => match st with
  | .long y :: .long x :: r => (match xrs r 8 with
    | true => jr x.toInt ∧ jr y.toInt ∧ K (.long (zl (Int.gcd x.toInt y.toInt)) :: r) G
    | false => False)
  | _ => False
theorem oGcd_ok {l : Launch} {cc : ByteArray} {R : Room} {ret : Option FieldType} {post : Option Value → List xE → Prop} {nL : Nat} {X : Nat → List (Option Value) → List Value → List xE → Prop} (hX : xR l RX11 cc R ret post nL X) (hR : rX11_gcd.frames + 1 ≤ R.frames ∧ 8 + (10 + 11) + rX11_gcd.locals ≤ R.locals) : xHq cc X (91, oGcd) := by
  intro pc lv st G K ix hd hk h
  rcases hd with ⟨e, hd⟩ | ⟨e, hd⟩
  · have e : 91 = 2 * ix := e
    omega
  · have e : 91 = 2 * ix + 1 := e
    have : ix = 45 := by omega
    subst this
    unfold oGcd at h
    dsimp only at h
    split at h
    next y x r =>
      split at h
      next hr =>
        obtain ⟨h1, h2, h⟩ := h
        have hc := c_gcd l x.toInt y.toInt h1 h2
        rw [zl_of, zl_of] at hc
        refine hX.callS [] r hc yX11_gcd_ok lkX11_45 ssX11_gcd ⟨rfl, rfl, hR.1, hR.2⟩ hd rfl rfl (xrs_ok hr) trivial rfl (fun _ _ q => by rw [q.2]) (fun r' G1 q => ?_)
        obtain ⟨rfl, rfl⟩ := q
        exact hk _ _ h
      next => exact h.elim
    next => exact h.elim
set_option maxHeartbeats 4000000 in
set_option maxRecDepth 100000 in
/-- least(a, n) -/
theorem c_least (l : Launch) (N n : Nat) (hn : n ≤ N) (hN : N ≤ 9) (z : Nat → Int) (hz : ∀ i, i < n → jr (z i)) (hg : gN z n ≠ 0) : xM l yX11_least cX11_least 9 (some .boolean) rX11_least [.ref 1, .ref 0, .int (nI n)] [.inl (N, .inr (.inl (fun i => zl (z i))))] (fun r G => r = some (.int (bI (fit z n n))) ∧ G = [.inl (N, .inr (.inl (fun i => zl (if i < n then lst z n i else z i))))]) := by
  refine xM.of (by decide) (Nat.le_of_ble_eq_true rfl) (fun X hX => ?_)
  have hoc := xoc1 (oGcd_ok hX (by decide)) xnoc
  have j0 : jr 0 := ⟨by omega, by omega⟩
  have jg := gN_jr hz
  have jf := fN_jr hz
  have jn : ∀ k, k < n → jr (lst z n k) := fun k hk => lst_jr (hz k hk)
  have hg0 : ¬ zl (gN z n) = 0 := by
    intro h
    have h1 : zl (gN z n) = zl 0 := h
    rw [zl_eq jg j0] at h1
    omega
  have loop2 : ∀ d k, d + k = n → X 53 [some (.ref 1), some (.ref 0), some (.int (nI n)), some (.long (zl (gN z n))), none, some (.long (zl (fN z n))), none, some (.int (bI (fit z n k))), some (.int (nI k))] [] [.inl (N, .inr (.inl (fun i => zl (if i < k then lst z n i else z i))))] := by
    intro d
    induction d with
    | zero =>
      intro k hk
      have hk : k = n := by omega
      subst hk
      refine hX.run (oc := [(91, oGcd)]) kX11_least_ok ftX11_ok ctX11_ok hoc [] [] [] 80 ?_
      refine ⟨fun _ => ?_, fun h => absurd (nI_le (Nat.le_refl k) (by omega)) h⟩
      exact ⟨bI_nar _, rfl, rfl⟩
    | succ d ih =>
      intro k hk
      have nice : X 84 [some (.ref 1), some (.ref 0), some (.int (nI n)), some (.long (zl (gN z n))), none, some (.long (zl (fN z n))), none, some (.int (bI (fit z n k))), some (.int (nI k))] [] [.inl (N, .inr (.inl (fun i => zl (if i < k + 1 then lst z n i else z i))))] := by
        have hih := ih (k + 1) (by omega)
        rw [← nI_1] at hih
        have e1 : zl (if k < k + 1 then lst z n k else z k) = zl (lst z n k) := by rw [if_pos (by omega)]
        have jk := jn k (by omega)
        refine hX.run (oc := [(91, oGcd)]) kX11_least_ok ftX11_ok ctX11_ok hoc [53] [] [92, 103] 80 ?_
        refine ⟨fun h => ?_, fun h => ?_⟩
        · have hf : fit z n (k + 1) = false := by
            have := bI_0.mp h
            simp [fit, this]
          rw [hf] at hih
          exact hih
        · have hfk : fit z n k = true := by
            cases hb : fit z n k with
            | true => rfl
            | false => exact absurd (bI_0.mpr hb) h
          refine ⟨k, rfl, by omega, by omega, ?_⟩
          refine ⟨fun h => ?_, fun h => ?_⟩
          · have h1 : zl 500 < zl (if k < k + 1 then lst z n k else z k) := lgc_gt.mp h
            rw [e1, zl_lt ⟨by omega, by omega⟩ jk] at h1
            have hf : fit z n (k + 1) = false := by
              simp only [fit, hfk, Bool.true_and, decide_eq_false_iff_not]
              omega
            rw [hf] at hih
            exact hih
          · have h1 : ¬ zl 500 < zl (if k < k + 1 then lst z n k else z k) := fun q => h (lgc_gt.mpr q)
            rw [e1, zl_lt ⟨by omega, by omega⟩ jk] at h1
            refine ⟨k, rfl, by omega, by omega, ?_⟩
            refine ⟨fun h => ?_, fun h => ?_⟩
            · have h2 : zl (if k < k + 1 then lst z n k else z k) < zl (-500) := lgc_lt.mp h
              rw [e1, zl_lt jk ⟨by omega, by omega⟩] at h2
              have hf : fit z n (k + 1) = false := by
                simp only [fit, hfk, Bool.true_and, decide_eq_false_iff_not]
                omega
              rw [hf] at hih
              exact hih
            · have h2 : ¬ zl (if k < k + 1 then lst z n k else z k) < zl (-500) := fun q => h (lgc_lt.mpr q)
              rw [e1, zl_lt jk ⟨by omega, by omega⟩] at h2
              have hf : fit z n (k + 1) = true := by
                simp only [fit, hfk, Bool.true_and, decide_eq_true_eq]
                omega
              rw [hf] at hih
              exact hih
      have stepB : ∀ v, v = zl (lst z n k) → X 84 [some (.ref 1), some (.ref 0), some (.int (nI n)), some (.long (zl (gN z n))), none, some (.long (zl (fN z n))), none, some (.int (bI (fit z n k))), some (.int (nI k))] [] [.inl (N, .inr (.inl (vp_updL (fun i => zl (if i < k then lst z n i else z i)) k v)))] := by
        intro v hv
        refine hX.alike nice ⟨⟨rfl, fun i hi => ?_⟩, trivial⟩
        unfold vp_updL
        dsimp only
        by_cases hik : i = k
        · subst hik
          rw [if_pos rfl, if_pos (by omega), hv]
        · rw [if_neg hik]
          by_cases h2 : i < k
          · rw [if_pos h2, if_pos (by omega)]
          · rw [if_neg h2, if_neg (by omega)]
      have jk := hz k (by omega)
      refine hX.run (oc := [(91, oGcd)]) kX11_least_ok ftX11_ok ctX11_ok hoc [84] [] [65, 83] 80 ?_
      refine ⟨fun h => absurd h (nI_ge (by omega) (by omega)), fun _ => ?_⟩
      refine ⟨k, rfl, by omega, by omega, ?_⟩
      refine ⟨hg0, ?_⟩
      refine ⟨fun h => ?_, fun h => ?_⟩
      · have h1 : zl 0 ≤ zl (fN z n) := lgc_ge.mp h
        rw [zl_le j0 jf] at h1
        refine ⟨k, rfl, by omega, by omega, ?_⟩
        refine stepB _ ?_
        show zl (if k < k then lst z n k else z k) / zl (gN z n) * zl 1 = zl (lst z n k)
        rw [if_neg (by omega), zl_div jk jg, zl_mul]
        unfold lst sN
        rw [if_neg (by omega)]
      · have h1 : ¬ zl 0 ≤ zl (fN z n) := fun q => h (lgc_ge.mpr q)
        rw [zl_le j0 jf] at h1
        refine ⟨k, rfl, by omega, by omega, ?_⟩
        refine stepB _ ?_
        show zl (if k < k then lst z n k else z k) / zl (gN z n) * zl (-1) = zl (lst z n k)
        rw [if_neg (by omega), zl_div jk jg, zl_mul]
        unfold lst sN
        rw [if_pos (by omega)]
  have loop1 : ∀ d k, d + k = n → X 8 [some (.ref 1), some (.ref 0), some (.int (nI n)), some (.long (zl (gN z k))), none, some (.long (zl (fN z k))), none, some (.int (nI k)), none] [] [.inl (N, .inr (.inl (fun i => zl (z i))))] := by
    intro d
    induction d with
    | zero =>
      intro k hk
      have hk : k = n := by omega
      subst hk
      refine hX.run (oc := [(91, oGcd)]) kX11_least_ok ftX11_ok ctX11_ok hoc [53] [] [] 80 ?_
      refine ⟨fun _ => ?_, fun h => absurd (nI_le (Nat.le_refl k) (by omega)) h⟩
      refine hX.alike (loop2 k 0 (by omega)) ⟨⟨rfl, fun i hi => ?_⟩, trivial⟩
      dsimp only
      rw [if_neg (by omega)]
    | succ d ih =>
      intro k hk
      have hih := ih (k + 1) (by omega)
      rw [← nI_1] at hih
      have jk := hz k (by omega)
      have jgk := gN_jr (n := k) (fun i hi => hz i (by omega))
      have jfk := fN_jr (n := k) (fun i hi => hz i (by omega))
      have eg : zl (Int.gcd (zl (gN z k)).toInt (zl (z k)).toInt) = zl (gN z (k + 1)) := by rw [zl_to jgk, zl_to jk]; rfl
      refine hX.run (oc := [(91, oGcd)]) kX11_least_ok ftX11_ok ctX11_ok hoc [8] [] [18, 33] 80 ?_
      refine ⟨fun h => absurd h (nI_ge (by omega) (by omega)), fun _ => ?_⟩
      refine ⟨k, rfl, by omega, by omega, ?_⟩
      refine ⟨by rw [zl_to jgk]; exact jgk, by show jr (zl (z k)).toInt; rw [zl_to jk]; exact jk, ?_⟩
      refine ⟨fun h => ?_, fun h => ?_⟩
      · have h1 : zl (fN z k) = zl 0 := lgc_eq.mp h
        rw [zl_eq jfk j0] at h1
        refine ⟨k, rfl, by omega, by omega, ?_⟩
        have ef : fN z (k + 1) = z k := by unfold fN; rw [if_pos h1]
        rw [← eg, ef] at hih
        exact hih
      · have h1 : ¬ zl (fN z k) = zl 0 := fun q => h (lgc_eq.mpr q)
        rw [zl_eq jfk j0] at h1
        have ef : fN z (k + 1) = fN z k := by rw [fN, if_neg h1]
        rw [← eg, ef] at hih
        exact hih
  refine hX.run (oc := [(91, oGcd)]) kX11_least_ok ftX11_ok ctX11_ok hoc [8] [] [] 80 ?_
  exact loop1 n 0 (by omega)
