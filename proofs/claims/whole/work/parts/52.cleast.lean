set_option maxHeartbeats 4000000 in
set_option maxRecDepth 100000 in
theorem k_beyond (l : Launch) (a b : Int) (ja : jr a) (jb : jr b) : xM l yX10_beyond cX10_beyond 4 (some .boolean) rX10_beyond [.long (zl a), .long (zl b)] [] (fun r G => r = some (.int (bI (decide (a < -b ∨ b < a)))) ∧ G = []) := by
  refine xM.of (by decide) (Nat.le_of_ble_eq_true rfl) (fun X hX => ?_)
  refine hX.run (ft := ftX10) (ct := ctX10) (oc := []) kX10_beyond_ok ftX10_ok ctX10_ok xnoc [] [] [] 100 ?_
  have jn : jr (-b) := ⟨by have := jb.2; omega, by have := jb.1; omega⟩
  refine ⟨fun h => ?_, fun h => ?_⟩
  · have h1 : zl a < - zl b := lgc_lt.mp h
    rw [zl_neg, zl_lt ja jn] at h1
    rw [decide_eq_true (Or.inl h1)]
    exact ⟨rfl, rfl, rfl⟩
  have h1 : ¬ zl a < - zl b := fun q => h (lgc_lt.mpr q)
  rw [zl_neg, zl_lt ja jn] at h1
  refine ⟨fun h => ?_, fun h => ?_⟩
  · have h2 : zl a ≤ zl b := lgc_le.mp h
    rw [zl_le ja jb] at h2
    rw [decide_eq_false (by omega)]
    exact ⟨rfl, rfl, rfl⟩
  · have h2 : ¬ zl a ≤ zl b := fun q => h (lgc_le.mpr q)
    rw [zl_le ja jb] at h2
    rw [decide_eq_true (by omega)]
    exact ⟨rfl, rfl, rfl⟩
theorem halve {r y : Nat} (h0 : 0 < r) (h : r < y) : 2 * (y % r) < y := by
  have h1 := Nat.mod_lt y h0
  by_cases h2 : 2 * r ≤ y
  · omega
  · have h3 : y % r = y - r := by
      rw [Nat.mod_eq_sub_mod (by omega), Nat.mod_eq_of_lt (by omega)]
    omega
set_option maxHeartbeats 4000000 in
set_option maxRecDepth 100000 in
theorem k_divisor (l : Launch) (a b : Int) (ha : jr a) (hb : jr b) : xM l yX3_divisor cX3_divisor 11 (some .long) rX3_divisor [.long (zl a), .long (zl b)] [] (fun r G => r = some (.long (zl (Int.gcd a b))) ∧ G = []) := by
  refine xM.of (by decide) (Nat.le_of_ble_eq_true rfl) (fun X hX => ?_)
  have hoc := xoc1 (oAbs_ok hX (idx := 7) lmX3_7 (by decide)) xnoc
  have out : ∀ (x k : Nat), k ≤ 127 → x = Int.gcd a b → X 15 [some (.long (zl a)), none, some (.long (zl b)), none, some (.long (zl x)), none, some (.long (zl (0 : Nat))), none, some (.int (nI k)), none, none] [] [] := by
    intro x k hk hg
    refine hX.run (ft := []) (ct := []) (oc := [(15, oAbs)]) kX3_divisor_ok xnof xnok hoc [] [] [] 60 ?_
    refine ⟨fun h => absurd h (nI_ge (a := k) (b := 128) (by omega) (by omega)), fun _ => ?_⟩
    refine ⟨fun _ => ⟨by rw [hg], rfl⟩, fun h => absurd rfl h⟩
  have one : ∀ (x y k : Nat), k ≤ 127 → x < 9223372036854775808 → y < 9223372036854775808 → 0 < y → X 15 [some (.long (zl a)), none, some (.long (zl b)), none, some (.long (zl y)), none, some (.long (zl (x % y : Nat))), none, some (.int (nI (k + 1))), none, none] [] [] → X 15 [some (.long (zl a)), none, some (.long (zl b)), none, some (.long (zl x)), none, some (.long (zl y)), none, some (.int (nI k)), none, none] [] [] := by
    intro x y k hk hx hy h0 hn
    have jx : jr x := ⟨by omega, by omega⟩
    have jy : jr y := ⟨by omega, by omega⟩
    have hm : (x : Int).tmod y = ((x % y : Nat) : Int) := by rw [Int.tmod_eq_emod_of_nonneg (by omega)]; rfl
    have hr : zl x - zl x / zl y * zl y = zl ((x % y : Nat) : Int) := by rw [zl_rem jx jy, hm]
    have ne : ¬ zl y = 0 := by
      intro q
      have q2 : zl y = zl 0 := q
      rw [zl_eq jy ⟨by omega, by omega⟩] at q2
      omega
    refine hX.run (ft := []) (ct := []) (oc := [(15, oAbs)]) kX3_divisor_ok xnof xnok hoc [15] [] [] 60 ?_
    refine ⟨fun h => absurd h (nI_ge (a := k) (b := 128) (by omega) (by omega)), fun _ => ?_⟩
    refine ⟨fun h => absurd (lgc_eq.mp h) ne, fun _ => ?_⟩
    refine ⟨ne, ?_⟩
    rw [← hr, ← nI_1] at hn
    exact hX.less hn ⟨rfl, rfl, rfl, rfl, rfl, trivial⟩
  have loop : ∀ (n x y k : Nat), y < 2 ^ n → k + 2 * n ≤ 127 → x < 9223372036854775808 → y < 9223372036854775808 → Nat.gcd x y = Int.gcd a b → X 15 [some (.long (zl a)), none, some (.long (zl b)), none, some (.long (zl x)), none, some (.long (zl y)), none, some (.int (nI k)), none, none] [] [] := by
    intro n
    induction n with
    | zero =>
      intro x y k h1 h2 h3 h4 h5
      have : y = 0 := by simpa using h1
      subst this
      rw [Nat.gcd_zero_right] at h5
      exact out x k (by omega) h5
    | succ n ih =>
      intro x y k h1 h2 h3 h4 h5
      by_cases h0 : y = 0
      · subst h0
        rw [Nat.gcd_zero_right] at h5
        exact out x k (by omega) h5
      have hlt := Nat.mod_lt x (show 0 < y by omega)
      refine one x y k (by omega) h3 h4 (by omega) ?_
      rw [← gcd_step x y] at h5
      by_cases h6 : x % y = 0
      · rw [h6] at h5 ⊢
        rw [Nat.gcd_zero_right] at h5
        exact out y (k + 1) (by omega) h5
      · have hh := halve (r := x % y) (y := y) (by omega) hlt
        refine one y (x % y) (k + 1) (by omega) h4 (by omega) (by omega) ?_
        rw [← gcd_step y (x % y)] at h5
        have hlt2 := Nat.mod_lt y (show 0 < x % y by omega)
        refine ih (x % y) (y % (x % y)) (k + 1 + 1) ?_ (by omega) (by omega) (by omega) h5
        rw [Nat.pow_succ] at h1
        omega
  have abv : ∀ z : Int, jr z → (if 0 < zl z then zl z else - zl z) = zl (z.natAbs : Int) := by
    intro z hz
    have e : (0 < zl z) ↔ 0 < z := by
      have := zl_lt (a := 0) (b := z) ⟨by omega, by omega⟩ hz
      exact this
    by_cases h : 0 < z
    · rw [if_pos (e.mpr h), show ((z.natAbs : Nat) : Int) = z by omega]
    · rw [if_neg (fun q => h (e.mp q)), zl_neg, show ((z.natAbs : Nat) : Int) = -z by omega]
  have key := loop 63 a.natAbs b.natAbs 0 (by have := hb.1; have := hb.2; omega) (by omega) (by have := ha.1; have := ha.2; omega) (by have := hb.1; have := hb.2; omega) rfl
  rw [← abv a ha, ← abv b hb] at key
  refine hX.run (ft := []) (ct := []) (oc := [(15, oAbs)]) kX3_divisor_ok xnof xnok hoc [15] [] [] 60 ?_
  exact key
/-- each of the row is at most W -/
def fitM (W : Int) (z : Nat → Int) (n : Nat) : Nat → Bool
  | 0 => true
  | k + 1 => fitM W z n k && !decide (lst z n k < -W ∨ W < lst z n k)
theorem fitM_5 (z : Nat → Int) (n : Nat) : ∀ k, fitM 500 z n k = fit z n k
  | 0 => rfl
  | k + 1 => by
    unfold fitM fit
    rw [fitM_5 z n k]
    congr 1
    by_cases h : -500 ≤ lst z n k ∧ lst z n k ≤ 500
    · rw [decide_eq_true h, decide_eq_false (by omega)]; rfl
    · rw [decide_eq_false h, decide_eq_true (by omega)]; rfl
set_option maxHeartbeats 4000000 in
set_option maxRecDepth 100000 in
theorem k_reduce (l : Launch) (N : Nat) (hN : N ≤ 9) (W : Int) (hW : jr W) (z : Nat → Int) (hz : ∀ i, i < N → jr (z i)) (hg : gN z N ≠ 0) : xM l yX3_reduce cX3_reduce 11 (some .boolean) rX3_reduce [.ref 0, .long (zl W)] [.inl (N, .inr (.inl (fun i => zl (z i))))] (fun r G => r = some (.int (bI (fitM W z N N))) ∧ G = [.inl (N, .inr (.inl (fun i => zl (lst z N i))))]) := by
  refine xM.of (by decide) (Nat.le_of_ble_eq_true rfl) (fun X hX => ?_)
  have j0 : jr 0 := ⟨by omega, by omega⟩
  have jg := gN_jr hz
  have jf := fN_jr hz
  have ng : ¬ zl ((gN z N : Nat) : Int) = zl 0 := by
    rw [zl_eq jg j0]
    omega
  have third : ∀ sg : Int, sg = (if fN z N < 0 then -((gN z N : Nat) : Int) else ((gN z N : Nat) : Int)) → ∀ d k, d + k = N → X 77 [some (.ref 0), some (.long (zl W)), none, some (.long (zl (gN z N : Nat))), none, some (.long (zl (fN z N))), none, some (.long (zl sg)), none, some (.int (bI (fitM W z N k))), some (.int (nI k))] [] [.inl (N, .inr (.inl (fun i => if i < k then zl (lst z N i) else zl (z i))))] := by
    intro sg hsg d
    have jsg : jr sg := by
      rw [hsg]
      split
      · exact ⟨by have := jg.2; omega, by have := jg.1; omega⟩
      · exact jg
    have nsg : ¬ zl sg = 0 := by
      intro q
      have q2 : zl sg = zl 0 := q
      rw [zl_eq jsg j0, hsg] at q2
      split at q2 <;> omega
    have dv : ∀ i, i < N → zl (z i) / zl sg = zl (lst z N i) := by
      intro i hi
      rw [zl_div (hz i hi) jsg]
      congr 1
      unfold lst sN
      rw [hsg]
      split
      · rw [Int.tdiv_neg]; omega
      · omega
    induction d with
    | zero =>
      intro k hk
      have hk : k = N := by omega
      subst hk
      refine hX.run (ft := []) (ct := []) (oc := []) kX3_reduce_ok xnof xnok xnoc [124] [] [] 80 ?_
      refine ⟨fun _ => ?_, fun h => absurd (nI_le (Nat.le_refl _) (by omega)) h⟩
      refine hX.alike (G2 := [.inl (k, .inr (.inl (fun i => zl (lst z k i))))]) ?_ ⟨⟨rfl, fun i hi => by dsimp only; rw [if_pos hi]⟩, trivial⟩
      refine hX.run (ft := []) (ct := []) (oc := []) kX3_reduce_ok xnof xnok xnoc [] [] [] 80 ?_
      exact ⟨bI_nar _, rfl, rfl⟩
    | succ d ih =>
      intro k hk
      have hkN : k < N := by omega
      have hih := ih (k + 1) (by omega)
      rw [← nI_1 k] at hih
      have jl : jr (lst z N k) := lst_jr (hz k hkN)
      have upd1 : ∀ i, i < N → vp_updL (fun i => if i < k then zl (lst z N i) else zl (z i)) k (zl (z k) / zl sg) i = (fun i => if i < k + 1 then zl (lst z N i) else zl (z i)) i := by
        intro i hi
        unfold vp_updL
        dsimp only
        by_cases e : i = k
        · subst e
          rw [if_pos rfl, if_pos (show i < i + 1 by omega), dv i hkN]
        · rw [if_neg e]
          by_cases e2 : i < k
          · rw [if_pos e2, if_pos (by omega)]
          · rw [if_neg e2, if_neg (by omega)]
      refine hX.run (ft := []) (ct := []) (oc := []) kX3_reduce_ok xnof xnok xnoc [95] [] [90, 94] 80 ?_
      refine ⟨fun h => absurd h (nI_ge (by omega) (by omega)), fun _ => ?_⟩
      refine ⟨k, rfl, by omega, by omega, ?_⟩
      refine ⟨nsg, ?_⟩
      refine ⟨k, rfl, by omega, by omega, ?_⟩
      refine hX.alike (G2 := [.inl (N, .inr (.inl (fun i => if i < (k + 1) then zl (lst z N i) else zl (z i))))]) ?_ ⟨⟨rfl, fun i hi => ?_⟩, trivial⟩
      rotate_left
      · have := upd1 i hi
        dsimp only at this ⊢
        rw [if_neg (Nat.lt_irrefl k)]
        exact this
      refine hX.run (ft := []) (ct := []) (oc := []) kX3_reduce_ok xnof xnok xnoc [77] [] [103] 80 ?_
      refine ⟨fun h => ?_, fun h => ?_⟩
      · have e : fitM W z N (k + 1) = false := by unfold fitM; rw [bI_0.mp h]; rfl
        have e0 := bI_0.mp h
        rw [e] at hih
        rw [e0]
        exact hih
      refine ⟨k, rfl, by omega, by omega, ?_⟩
      have hb := bI_t h
      dsimp only
      rw [if_pos (show k < k + 1 by omega)]
      refine hX.callSN [] [] (k_beyond l (lst z N k) W jl hW) yX10_beyond_ok lkX3_19 ssX10_beyond ⟨rfl, rfl, by decide, by decide⟩ (kX3_reduce_ok.at 105 rfl) rfl rfl (by decide) trivial rfl (fun _ _ q => by rw [q.2]) (fun r9 G1 q => ?_)
      obtain ⟨rfl, rfl⟩ := q
      refine hX.run (ft := []) (ct := []) (oc := []) kX3_reduce_ok xnof xnok xnoc [77] [] [103] 80 ?_
      refine ⟨fun h2 => ?_, fun h2 => ?_⟩
      · have e : fitM W z N (k + 1) = true := by unfold fitM; rw [hb, bI_0.mp h2]; rfl
        rw [e] at hih
        exact hih
      · have e : fitM W z N (k + 1) = false := by unfold fitM; rw [hb, bI_t h2]; rfl
        rw [e] at hih
        exact hih
  have mid : X 48 [some (.ref 0), some (.long (zl W)), none, some (.long (zl ((gN z N : Nat) : Int))), none, some (.long (zl (fN z N))), none, none, none, none, none] [] [.inl (N, .inr (.inl (fun i => zl (z i))))] := by
    have go : ∀ sg : Int, ∀ w : Int64, sg = (if fN z N < 0 then -((gN z N : Nat) : Int) else ((gN z N : Nat) : Int)) → w = zl sg → X 69 [some (.ref 0), some (.long (zl W)), none, some (.long (zl ((gN z N : Nat) : Int))), none, some (.long (zl (fN z N))), none, none, none, none, none] [.long w] [.inl (N, .inr (.inl (fun i => zl (z i))))] := by
      rintro sg _ hsg rfl
      have := third sg hsg N 0 (by omega)
      refine hX.run (ft := []) (ct := []) (oc := []) kX3_reduce_ok xnof xnok xnoc [77] [] [] 80 ?_
      refine hX.alike this ⟨⟨rfl, fun i hi => ?_⟩, trivial⟩
      dsimp only
      rw [if_neg (Nat.not_lt_zero i)]
    refine hX.run (ft := []) (ct := []) (oc := []) kX3_reduce_ok xnof xnok xnoc [69] [] [] 80 ?_
    refine ⟨fun h => absurd (lgc_eq.mp h) ng, fun _ => ?_⟩
    refine ⟨fun h => ?_, fun h => ?_⟩
    · have h1 : zl 0 ≤ zl (fN z N) := lgc_ge.mp h
      rw [zl_le j0 jf] at h1
      exact go _ _ (by rw [if_neg (by omega)]) rfl
    · have h1 : ¬ zl 0 ≤ zl (fN z N) := fun q => h (lgc_ge.mpr q)
      rw [zl_le j0 jf] at h1
      exact go (-((gN z N : Nat) : Int)) _ (by rw [if_pos (by omega)]) (zl_neg _)
  have first : ∀ d k, d + k = N → X 8 [some (.ref 0), some (.long (zl W)), none, some (.long (zl ((gN z k : Nat) : Int))), none, some (.long (zl (fN z k))), none, some (.int (nI k)), none, none, none] [] [.inl (N, .inr (.inl (fun i => zl (z i))))] := by
    intro d
    induction d with
    | zero =>
      intro k hk
      have hk : k = N := by omega
      subst hk
      refine hX.run (ft := []) (ct := []) (oc := []) kX3_reduce_ok xnof xnok xnoc [48] [] [] 80 ?_
      exact ⟨fun _ => hX.less mid ⟨rfl, rfl, rfl, rfl, trivial⟩, fun h => absurd (nI_le (Nat.le_refl _) (by omega)) h⟩
    | succ d ih =>
      intro k hk
      have hih := ih (k + 1) (by omega)
      have eg : gN z (k + 1) = Int.gcd (gN z k) (z k) := rfl
      have ef : fN z (k + 1) = if fN z k = 0 then z k else fN z k := rfl
      have jgk := gN_jr (z := z) (n := k) (fun i hi => hz i (by omega))
      have jfk := fN_jr (z := z) (n := k) (fun i hi => hz i (by omega))
      rw [← nI_1 k, eg] at hih
      refine hX.run (ft := []) (ct := []) (oc := []) kX3_reduce_ok xnof xnok xnoc [8] [] [19, 34] 80 ?_
      refine ⟨fun h => absurd h (nI_ge (by omega) (by omega)), fun _ => ?_⟩
      refine ⟨k, rfl, by omega, by omega, ?_⟩
      refine hX.callS [] [] (k_divisor l (gN z k : Nat) (z k) jgk (hz k (by omega))) yX3_divisor_ok lkX3_15 ssX3_divisor ⟨rfl, rfl, by decide, by decide⟩ (kX3_reduce_ok.at 20 rfl) rfl rfl (by decide) trivial rfl (fun _ _ q => by rw [q.2]) (fun r9 G1 q => ?_)
      obtain ⟨rfl, rfl⟩ := q
      refine hX.run (ft := []) (ct := []) (oc := []) kX3_reduce_ok xnof xnok xnoc [8] [] [19, 34] 80 ?_
      refine ⟨fun h => ?_, fun h => ?_⟩
      · have h0 : fN z k = 0 := lce h rfl rfl jfk j0
        rw [ef, if_pos h0] at hih
        refine ⟨k, rfl, by omega, by omega, ?_⟩
        exact hih
      · have h0 : ¬ fN z k = 0 := lcn h rfl rfl
        rw [ef, if_neg h0] at hih
        exact hih
  refine hX.run (ft := []) (ct := []) (oc := []) kX3_reduce_ok xnof xnok xnoc [8] [] [] 80 ?_
  exact first N 0 (by omega)
