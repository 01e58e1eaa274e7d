def cen (p n : Int) : Int := if p / 2 < n then n - p else n
def smv (p v : Int) : Nat → Int → Option (Int × Int)
  | 0, _ => none
  | f + 1, d => if -500 ≤ cen p (v * d % p) ∧ cen p (v * d % p) ≤ 500 then some (cen p (v * d % p), d) else smv p v f (d + 1)
theorem smv_in {p v : Int} : ∀ {f : Nat} {d n e : Int}, smv p v f d = some (n, e) → (-500 ≤ n ∧ n ≤ 500) ∧ d ≤ e ∧ e < d + f ∧ n = cen p (v * e % p)
  | 0, d, n, e, h => by cases h
  | f + 1, d, n, e, h => by
    unfold smv at h
    split at h
    · next hc =>
      cases h
      exact ⟨hc, by omega, by omega, rfl⟩
    · have := smv_in h
      refine ⟨this.1, by omega, by omega, this.2.2.2⟩
set_option maxHeartbeats 4000000 in
set_option maxRecDepth 100000 in
theorem c_small (l : Launch) (n nm ng ns ngr : Int32) (av be : Int64) (so ro tb gv sd gr : Nat → Int32) (row table one two : Nat → Int64) (p : Int) (hp : pok p) (v : Int) (hv : rz p v) : xM l yX11_small cX11_small 7 (some .boolean) rX11_small [.ref 0, .long (zl v)] (GR n nm ng ns ngr (zl p) av be so ro tb gv sd gr row table one two) (fun r G => ((∃ m e, smv p v 500 1 = some (m, e) ∧ r = some (.int 1) ∧ G = GR n nm ng ns ngr (zl p) (zl m) (zl e) so ro tb gv sd gr row table one two) ∨ (smv p v 500 1 = none ∧ r = some (.int 0) ∧ G = GR n nm ng ns ngr (zl p) av be so ro tb gv sd gr row table one two))) := by
  refine xM.of (by decide) (Nat.le_of_ble_eq_true rfl) (fun X hX => ?_)
  have hp1 := hp.1
  have hp2 := hp.2
  have main : ∀ (f : Nat) (d : Int) (w : Int64), d = 501 - f → 1 ≤ d → smv p v 500 1 = smv p v f d → w = zl d → X 2 [some (.ref 0), some (.long (zl v)), none, some (.long w), none, none, none] [] (GR n nm ng ns ngr (zl p) av be so ro tb gv sd gr row table one two) := by
    intro f
    induction f with
    | zero =>
      rintro d _ hd hd1 hs rfl
      refine hX.run (oc := []) kX11_small_ok ftX11_ok ctX11_ok xnoc [] [] [] 60 ?_
      refine ⟨fun _ => ⟨rfl, Or.inr ⟨hs, rfl, rfl⟩⟩, fun h => ?_⟩
      exfalso
      apply h
      apply lgc_gt.mpr
      show zl 500 < zl d
      rw [zl_lt ⟨by omega, by omega⟩ ⟨by omega, by omega⟩]
      omega
    | succ f ih =>
      rintro d _ hd hd1 hs rfl
      have hvd : 0 ≤ v * d ∧ v * d < 4611686018427387904 := by
        refine ⟨Int.mul_nonneg hv.1 (by omega), ?_⟩
        have h1 : ab v 2147483647 := ⟨by have := hv.1; omega, by have := hv.2; omega⟩
        have h2 : ab d 500 := ⟨by omega, by omega⟩
        have := (ab_mul h1 h2).2
        omega
      have hm := rz_mod hp (v * d)
      have hm1 := hm.1
      have hm2 := hm.2
      have jm := rz_jr hp hm
      have hnext := ih (d + 1) (zl d + zl 1) (by omega) (by omega)
      have late : ∀ w : Int64, w = zl (cen p (v * d % p)) → X 48 [some (.ref 0), some (.long (zl v)), none, some (.long (zl d)), none, some (.long w), none] [] (GR n nm ng ns ngr (zl p) av be so ro tb gv sd gr row table one two) := by
        rintro _ rfl
        have jc : jr (cen p (v * d % p)) := by
          unfold cen
          split
          · exact ⟨by omega, by omega⟩
          · exact jm
        have no : ¬ (-500 ≤ cen p (v * d % p) ∧ cen p (v * d % p) ≤ 500) → X 2 [some (.ref 0), some (.long (zl v)), none, some (.long (zl d + zl 1)), none, some (.long (zl (cen p (v * d % p)))), none] [] (GR n nm ng ns ngr (zl p) av be so ro tb gv sd gr row table one two) := by
          intro hn
          have h1 := hnext (by rw [hs, smv, if_neg hn]) (zl_add d 1)
          exact hX.less h1 ⟨rfl, rfl, rfl, trivial⟩
        refine hX.run (oc := []) kX11_small_ok ftX11_ok ctX11_ok xnoc [2] [] [] 60 ?_
        refine ⟨fun h => ?_, fun h => ?_⟩
        · have h1 : zl 500 < zl (cen p (v * d % p)) := lgc_gt.mp h
          rw [zl_lt ⟨by omega, by omega⟩ jc] at h1
          exact no (by omega)
        have h1 : ¬ zl 500 < zl (cen p (v * d % p)) := fun q => h (lgc_gt.mpr q)
        rw [zl_lt ⟨by omega, by omega⟩ jc] at h1
        refine ⟨fun h => ?_, fun h => ?_⟩
        · have h2 : zl (cen p (v * d % p)) < zl (-500) := lgc_lt.mp h
          rw [zl_lt jc ⟨by omega, by omega⟩] at h2
          exact no (by omega)
        · have h2 : ¬ zl (cen p (v * d % p)) < zl (-500) := fun q => h (lgc_lt.mpr q)
          rw [zl_lt jc ⟨by omega, by omega⟩] at h2
          refine ⟨rfl, Or.inl ⟨cen p (v * d % p), d, ?_, rfl, rfl⟩⟩
          rw [hs, smv, if_pos (by omega)]
      have mid : ∀ w : Int64, w = zl (v * d % p) → X 20 [some (.ref 0), some (.long (zl v)), none, some (.long (zl d)), none, some (.long w), none] [] (GR n nm ng ns ngr (zl p) av be so ro tb gv sd gr row table one two) := by
        rintro _ rfl
        have ed : zl p / zl 2 = zl (p / 2) := by
          rw [zl_div (pok_jr hp) ⟨by omega, by omega⟩]
          congr 1
          exact Int.tdiv_eq_ediv_of_nonneg (by omega)
        refine hX.run (oc := []) kX11_small_ok ftX11_ok ctX11_ok xnoc [48] [] [] 60 ?_
        refine ⟨by decide, ?_⟩
        refine ⟨fun h => ?_, fun h => ?_⟩
        · have h1 : zl (v * d % p) ≤ zl p / zl 2 := lgc_le.mp h
          rw [ed, zl_le jm ⟨by omega, by omega⟩] at h1
          exact late _ (by unfold cen; rw [if_neg (by omega)])
        · have h1 : ¬ zl (v * d % p) ≤ zl p / zl 2 := fun q => h (lgc_le.mpr q)
          rw [ed, zl_le jm ⟨by omega, by omega⟩] at h1
          refine late _ ?_
          unfold cen
          rw [if_pos (by omega), ← zl_sub]
      refine hX.run (oc := []) kX11_small_ok ftX11_ok ctX11_ok xnoc [20] [] [] 60 ?_
      refine ⟨fun h => ?_, fun _ => ?_⟩
      · exfalso
        have h1 : zl 500 < zl d := lgc_gt.mp h
        rw [zl_lt ⟨by omega, by omega⟩ ⟨by omega, by omega⟩] at h1
        omega
      exact ⟨pok_ne hp, mid _ (zl_rm hp (zl_mul _ _) hvd.1 (by omega))⟩
  refine hX.run (oc := []) kX11_small_ok ftX11_ok ctX11_ok xnoc [2] [] [] 60 ?_
  exact main 500 1 _ (by omega) (by omega) rfl rfl
/-- the fraction that stands for a cell -/
def telF (p : Int) (t : Nat → Int) (by' : Int) (i : Nat) : Option (Int × Int) := if t i = 0 then some (0, 1) else smv p (t i * by' % p) 500 1
def lcmv (all d : Int) : Int := all / (Int.gcd all d : Int) * d
def telA (F : Nat → Option (Int × Int)) : Nat → Nat → Int → Option Int
  | 0, _, all => some all
  | d + 1, i, all => match F i with
    | none => none
    | some (_, e) => if 500 < lcmv all e then none else telA F d (i + 1) (lcmv all e)
def telN (F : Nat → Option (Int × Int)) (i : Nat) : Int := match F i with | some (n, _) => n | none => 0
def telD (F : Nat → Option (Int × Int)) (i : Nat) : Int := match F i with | some (_, d) => d | none => 1
def telZ (F : Nat → Option (Int × Int)) (all : Int) (i : Nat) : Int := telN F i * (all / telD F i)
def nzB (t : Nat → Int) (i : Nat) : Bool := decide (¬ t i = 0)
/-- what the remainders tell: the table, if they tell one -/
def telV (p : Int) (t : Nat → Int) : Option (Nat → Int) := match fnd (nzB t) 9 0 with
  | none => none
  | some f => match telA (telF p t (invp p (t f))) 9 0 1 with
    | none => none
    | some all => if fit (telZ (telF p t (invp p (t f))) all) 9 9 then some (lrow (telZ (telF p t (invp p (t f))) all) 9) else none
def pinv (p : Int) : Prop := ∀ x : Int, 0 < x → x < p → x * invp p x % p = 1
theorem telF_in {p : Int} {t : Nat → Int} {b : Int} {i : Nat} {n e : Int} (h : telF p t b i = some (n, e)) : (-500 ≤ n ∧ n ≤ 500) ∧ 1 ≤ e ∧ e ≤ 500 := by
  unfold telF at h
  split at h
  · cases h
    exact ⟨⟨by omega, by omega⟩, by omega, by omega⟩
  · have := smv_in h
    exact ⟨this.1, by omega, by omega⟩
theorem lcmv_pos {a d : Int} (ha : 1 ≤ a) (hd : 1 ≤ d) : 1 ≤ lcmv a d ∧ lcmv a d ≤ a * d := by
  unfold lcmv
  have hg : 0 < Int.gcd a d := Int.gcd_pos_of_ne_zero_left _ (by omega)
  have h1 : (Int.gcd a d : Int) ∣ a := Int.gcd_dvd_left ..
  obtain ⟨c, hc⟩ := h1
  have hgi : (0 : Int) < (Int.gcd a d : Int) := by omega
  have e : a / (Int.gcd a d : Int) = c := Int.ediv_eq_of_eq_mul_right (by omega) hc
  rw [e]
  have hc1 : 1 ≤ c := by
    apply Classical.byContradiction
    intro q
    have : (Int.gcd a d : Int) * c ≤ 0 := Int.mul_nonpos_of_nonneg_of_nonpos (by omega) (by omega)
    omega
  have hca : c ≤ a := by
    have : c * 1 ≤ c * (Int.gcd a d : Int) := Int.mul_le_mul_of_nonneg_left (by omega) (by omega)
    have e2 : (Int.gcd a d : Int) * c = c * (Int.gcd a d : Int) := Int.mul_comm _ _
    omega
  refine ⟨?_, Int.mul_le_mul_of_nonneg_right hca (by omega)⟩
  have : 1 * 1 ≤ c * d := Int.mul_le_mul hc1 hd (by omega) (by omega)
  omega
set_option maxHeartbeats 4000000 in
set_option maxRecDepth 100000 in
theorem c_tellBack (l : Launch) (n nm ng ns ngr : Int32) (av be : Int64) (so ro tb gv sd gr : Nat → Int32) (row table one two : Nat → Int64) (p : Int) (hp : pok p) (hpi : pinv p) (t : Nat → Int) (ht : ∀ i, i < 9 → rz p (t i)) : xM l yX11_tellBack cX11_tellBack 7 (some .boolean) rX11_tellBack [.ref 0] (GR n nm ng ns ngr (zl p) av be so ro tb gv sd gr row (fun i => zl (t i)) one two) (fun r G => ∃ av' be' table' one' two', r = some (.int (bI (telV p t).isSome)) ∧ (∀ T, telV p t = some T → ∀ i, i < 9 → table' i = zl (T i)) ∧ G = GR n nm ng ns ngr (zl p) av' be' so ro tb gv sd gr row table' one' two') := by
  refine xM.of (by decide) (Nat.le_of_ble_eq_true rfl) (fun X hX => ?_)
  have hp1 := hp.1
  have hp2 := hp.2
  have j0 : jr 0 := ⟨by omega, by omega⟩
  have jt : ∀ i, i < 9 → jr (t i) := fun i hi => rz_jr hp (ht i hi)
  have hoc := xoc1 (oGcd_ok hX (by decide)) (xoc1 (oInv_ok hX (by decide) hp) xnoc)
  have no : ∀ (av be : Int64) (table one two : Nat → Int64), telV p t = none → narrow .boolean (.int (Int32.ofInt 0)) = .int (Int32.ofInt 0) ∧ ∃ av' be' table' one' two', some (Value.int (Int32.ofInt 0)) = some (.int (bI (telV p t).isSome)) ∧ (∀ T, telV p t = some T → ∀ i, i < 9 → table' i = zl (T i)) ∧ (GR n nm ng ns ngr (zl p) av be so ro tb gv sd gr row table one two) = GR n nm ng ns ngr (zl p) av' be' so ro tb gv sd gr row table' one' two' := by
    intro av be table one two h
    rw [h]
    exact ⟨rfl, av, be, table, one, two, rfl, fun T q => (by cases q), rfl⟩
  have tail : ∀ (fi : Nat) (all : Int), fi < 9 → t fi ≠ 0 → fnd (nzB t) 9 0 = some fi → telA (telF p t (invp p (t fi))) 9 0 1 = some all → (∀ i, i < 9 → ∃ n e, (telF p t (invp p (t fi))) i = some (n, e)) → 1 ≤ all → all ≤ 500 → ∀ (av be : Int64), X 166 [some (.ref 0), some (.int (nI fi)), some (.long (zl (invp p (t fi)))), none, some (.long (zl all)), none, none] [] (GR n nm ng ns ngr (zl p) av be so ro tb gv sd gr row (fun i => zl (t i)) (fun j => if j < 9 then zl (telN (telF p t (invp p (t fi))) j) else one j) (fun j => if j < 9 then zl (telD (telF p t (invp p (t fi))) j) else two j)) := by
    intro fi all hfi hne hfn hall hF ha1 ha2 av be
    have hdv : ∀ i, i < 9 → 1 ≤ telD (telF p t (invp p (t fi))) i ∧ telD (telF p t (invp p (t fi))) i ≤ 500 := fun i hi => by
      obtain ⟨n, e, q⟩ := hF i hi
      have := telF_in q
      unfold telD
      rw [q]
      exact this.2
    have hnv : ∀ i, i < 9 → ab (telN (telF p t (invp p (t fi))) i) 500 := fun i hi => by
      obtain ⟨n, e, q⟩ := hF i hi
      have := telF_in q
      unfold telN
      rw [q]
      exact this.1
    have hq : ∀ i, i < 9 → 0 ≤ all / telD (telF p t (invp p (t fi))) i ∧ all / telD (telF p t (invp p (t fi))) i ≤ 500 := fun i hi => by
      have := hdv i hi
      exact ⟨Int.ediv_nonneg (by omega) (by omega), Int.le_trans (Int.ediv_le_self _ (by omega)) ha2⟩
    have hzv : ∀ i, i < 9 → ab (telZ (telF p t (invp p (t fi))) all i) 250000 := fun i hi => by
      have h1 := hq i hi
      exact ab_le (ab_mul (hnv i hi) (B := 500) ⟨by omega, by omega⟩) (by decide)
    have eq1 : ∀ i, i < 9 → zl all / zl (telD (telF p t (invp p (t fi))) i) = zl (all / telD (telF p t (invp p (t fi))) i) := fun i hi => by
      have := hdv i hi
      rw [zl_div ⟨by omega, by omega⟩ ⟨by omega, by omega⟩, Int.tdiv_eq_ediv_of_nonneg (by omega)]
    have nd : ∀ i, i < 9 → ¬ zl (telD (telF p t (invp p (t fi))) i) = 0 := fun i hi h => by
      have := hdv i hi
      have h2 : zl (telD (telF p t (invp p (t fi))) i) = zl 0 := h
      rw [zl_eq ⟨by omega, by omega⟩ j0] at h2
      omega
    have hz1 : telZ (telF p t (invp p (t fi))) all fi = all := by
      have hv : t fi * invp p (t fi) % p = 1 := hpi (t fi) (by have := (ht fi hfi).1; omega) (ht fi hfi).2
      have hf : (telF p t (invp p (t fi))) fi = some (1, 1) := by
        unfold telF
        rw [if_neg hne, hv]
        have e1 : (1 : Int) * 1 % p = 1 := Int.emod_eq_of_lt (by omega) (by omega)
        have e2 : cen p 1 = 1 := by unfold cen; rw [if_neg (by omega)]
        rw [smv, e1, e2, if_pos (by omega)]
      unfold telZ telN telD
      rw [hf]
      simp
    have hg : gN (telZ (telF p t (invp p (t fi))) all) 9 ≠ 0 := by
      intro q
      have := gN_zero q fi hfi
      omega
    have step : ∀ (d i : Nat), d + i = 9 → X 169 [some (.ref 0), some (.int (nI fi)), some (.long (zl (invp p (t fi)))), none, some (.long (zl all)), none, some (.int (nI i))] [] (GR n nm ng ns ngr (zl p) av be so ro tb gv sd gr row (fun j => if j < i then zl (telZ (telF p t (invp p (t fi))) all j) else zl (t j)) (fun j => if j < 9 then zl (telN (telF p t (invp p (t fi))) j) else one j) (fun j => if j < 9 then zl (telD (telF p t (invp p (t fi))) j) else two j)) := by
      intro d
      induction d with
      | zero =>
        intro i hi
        have hi : i = 9 := by omega
        subst hi
        refine hX.run (oc := [(91, oGcd), (300, oInv p)]) kX11_tellBack_ok ftX11_ok ctX11_ok hoc [] [] [] 60 ?_
        refine ⟨fun _ => ?_, fun h => absurd (nI_le (Nat.le_refl 9) (by omega)) h⟩
        refine hX.alike (G2 := GR n nm ng ns ngr (zl p) av be so ro tb gv sd gr row (fun j => zl (telZ (telF p t (invp p (t fi))) all j)) (fun j => if j < 9 then zl (telN (telF p t (invp p (t fi))) j) else one j) (fun j => if j < 9 then zl (telD (telF p t (invp p (t fi))) j) else two j)) ?_ ⟨xsame_rf _, xsame_rf _, xsame_rf _, xsame_rf _, xsame_rf _, xsame_rf _, xsame_rf _, xsame_rf _, ⟨rfl, fun i hi => ?_⟩, xsame_rf _, xsame_rf _, trivial⟩
        rotate_left
        · dsimp only
          rw [if_pos hi]
        refine hX.callV [8, 0] [] (c_least l 9 9 (by omega) (by omega) (telZ (telF p t (invp p (t fi))) all) (fun i hi => ab_jr (hzv i hi) (by decide)) hg) yX11_least_ok lkX11_58 ivX11_least slX11_least ⟨rfl, rfl, by decide, by decide⟩ (kX11_tellBack_ok.at 214 rfl) rfl rfl (by decide) rfl rfl rfl ⟨rfl, trivial⟩ rfl (fun _ _ q => by rw [q.2]; rfl) (fun r G1 q => ?_)
        obtain ⟨rfl, rfl⟩ := q
        refine hX.run (oc := [(91, oGcd), (300, oInv p)]) kX11_tellBack_ok ftX11_ok ctX11_ok hoc [] [] [] 60 ?_
        have ev : telV p t = if fit (telZ (telF p t (invp p (t fi))) all) 9 9 then some (lrow (telZ (telF p t (invp p (t fi))) all) 9) else none := by
          unfold telV
          rw [hfn]
          dsimp only
          rw [hall]
        refine ⟨bI_nar _, av, be, _, _, _, ?_, fun T hT i hi => ?_, rfl⟩
        · rw [ev]
          cases fit (telZ (telF p t (invp p (t fi))) all) 9 9 <;> rfl
        · rw [ev] at hT
          split at hT
          · cases hT
            try dsimp only
            rw [if_pos hi, lrow_lt hi]
          · cases hT
      | succ d ih =>
        intro i hi
        have hih := ih (i + 1) (by omega)
        rw [← nI_1 i] at hih
        refine hX.run (oc := [(91, oGcd), (300, oInv p)]) kX11_tellBack_ok ftX11_ok ctX11_ok hoc [169] [] [188, 197, 200] 60 ?_
        refine ⟨fun h => absurd h (nI_ge (a := i) (b := 9) (by omega) (by omega)), fun _ => ?_⟩
        refine ⟨i, rfl, by omega, by omega, ?_⟩
        refine ⟨i, rfl, by omega, by omega, ?_⟩
        refine ⟨by dsimp only; rw [if_pos (by omega)]; exact nd i (by omega), ?_⟩
        refine ⟨i, rfl, by omega, by omega, ?_⟩
        refine hX.alike hih ⟨xsame_rf _, xsame_rf _, xsame_rf _, xsame_rf _, xsame_rf _, xsame_rf _, xsame_rf _, xsame_rf _, ⟨rfl, fun j hj => ?_⟩, xsame_rf _, xsame_rf _, trivial⟩
        unfold vp_updL
        try dsimp only
        by_cases e : j = i
        · subst e
          rw [if_pos rfl, if_pos (show j < j + 1 by omega), if_pos hj, if_pos hj, eq1 j hj, zl_mul]
          rfl
        · rw [if_neg e]
          by_cases e2 : j < i
          · rw [if_pos e2, if_pos (by omega)]
          · rw [if_neg e2, if_neg (by omega)]
    have := step 9 0 (by omega)
    refine hX.run (oc := [(91, oGcd), (300, oInv p)]) kX11_tellBack_ok ftX11_ok ctX11_ok hoc [169] [] [] 60 ?_
    refine hX.alike this ⟨xsame_rf _, xsame_rf _, xsame_rf _, xsame_rf _, xsame_rf _, xsame_rf _, xsame_rf _, xsame_rf _, ⟨rfl, fun i hi => ?_⟩, xsame_rf _, xsame_rf _, trivial⟩
    dsimp only
    rw [if_neg (by omega)]
  have loop : ∀ (fi : Nat), fi < 9 → t fi ≠ 0 → fnd (nzB t) 9 0 = some fi → ∀ (d i : Nat) (all : Int) (av be : Int64) (w : Int64), d + i = 9 → telA (telF p t (invp p (t fi))) 9 0 1 = telA (telF p t (invp p (t fi))) d i all → (∀ j, j < i → ∃ n e, (telF p t (invp p (t fi))) j = some (n, e)) → 1 ≤ all → all ≤ 500 → w = zl all → X 50 [some (.ref 0), some (.int (nI fi)), some (.long (zl (invp p (t fi)))), none, some (.long w), none, some (.int (nI i))] [] (GR n nm ng ns ngr (zl p) av be so ro tb gv sd gr row (fun i => zl (t i)) (fun j => if j < i then zl (telN (telF p t (invp p (t fi))) j) else one j) (fun j => if j < i then zl (telD (telF p t (invp p (t fi))) j) else two j)) := by
    intro fi hfi hne hfn d
    have hvn : ∀ r, r = telA (telF p t (invp p (t fi))) 9 0 1 → r = none → telV p t = none := by
      intro r h1 h2
      unfold telV
      rw [hfn]
      dsimp only
      rw [← h1, h2]
    induction d with
    | zero =>
      rintro i all av be _ hi hall hF ha1 ha2 rfl
      have hi : i = 9 := by omega
      subst hi
      refine hX.run (oc := [(91, oGcd), (300, oInv p)]) kX11_tellBack_ok ftX11_ok ctX11_ok hoc [166] [] [] 60 ?_
      refine ⟨fun _ => hX.less (tail fi all hfi hne hfn hall hF ha1 ha2 av be) ⟨rfl, rfl, rfl, rfl, trivial⟩, fun h => absurd (nI_le (Nat.le_refl 9) (by omega)) h⟩
    | succ d ih =>
      rintro i all av be _ hi hall hF ha1 ha2 rfl
      have hi9 : i < 9 := by omega
      have next : ∀ (m e : Int) (av be : Int64) (w : Int64) (one2 two2 : Nat → Int64), (telF p t (invp p (t fi))) i = some (m, e) → ¬ 500 < lcmv all e → w = zl (lcmv all e) → (∀ j, j < 9 → one2 j = if j < i + 1 then zl (telN (telF p t (invp p (t fi))) j) else one j) → (∀ j, j < 9 → two2 j = if j < i + 1 then zl (telD (telF p t (invp p (t fi))) j) else two j) → X 160 [some (.ref 0), some (.int (nI fi)), some (.long (zl (invp p (t fi)))), none, some (.long w), none, some (.int (nI i))] [] (GR n nm ng ns ngr (zl p) av be so ro tb gv sd gr row (fun i => zl (t i)) one2 two2) := by
        intro m e av be w one2 two2 hf hle hw h1 h2
        have hpos := lcmv_pos ha1 (telF_in hf).2.1
        have hih := ih (i + 1) (lcmv all e) av be w (by omega) (by rw [hall, telA, hf]; dsimp only; rw [if_neg hle]) (fun j hj => by
          by_cases ej : j = i
          · subst ej; exact ⟨m, e, hf⟩
          · exact hF j (by omega)) hpos.1 (by omega) hw
        rw [← nI_1 i] at hih
        refine hX.run (oc := [(91, oGcd), (300, oInv p)]) kX11_tellBack_ok ftX11_ok ctX11_ok hoc [50] [] [] 60 ?_
        refine hX.alike hih ⟨xsame_rf _, xsame_rf _, xsame_rf _, xsame_rf _, xsame_rf _, xsame_rf _, xsame_rf _, xsame_rf _, xsame_rf _, ⟨rfl, fun j hj => ?_⟩, ⟨rfl, fun j hj => ?_⟩, trivial⟩
        · exact h1 j hj
        · exact h2 j hj
      refine hX.run (oc := [(91, oGcd), (300, oInv p)]) kX11_tellBack_ok ftX11_ok ctX11_ok hoc [160] [] [64, 72, 79, 92, 118, 129] 60 ?_
      refine ⟨fun h => absurd h (nI_ge (a := i) (b := 9) (by omega) (by omega)), fun _ => ?_⟩
      refine ⟨i, rfl, by omega, by omega, ?_⟩
      refine ⟨i, rfl, by omega, by omega, ?_⟩
      refine ⟨i, rfl, by omega, by omega, ?_⟩
      refine ⟨fun h => ?_, fun h => ?_⟩
      · have h0 : t i = 0 := lce h rfl rfl (jt i hi9) j0
        have hf : (telF p t (invp p (t fi))) i = some (0, 1) := by unfold telF; rw [if_pos h0]
        have hl : lcmv all 1 = all := by unfold lcmv; simp
        refine next 0 1 av be _ _ _ hf (by rw [hl]; omega) (by rw [hl]) (fun j hj => ?_) (fun j hj => ?_)
        · unfold vp_updL
          dsimp only
          by_cases e : j = i
          · subst e
            rw [if_pos rfl, if_pos (show j < j + 1 by omega)]
            unfold telN
            rw [hf]
            rfl
          · rw [if_neg e]
            by_cases e2 : j < i
            · rw [if_pos e2, if_pos (by omega)]
            · rw [if_neg e2, if_neg (by omega)]
        · unfold vp_updL
          dsimp only
          by_cases e : j = i
          · subst e
            rw [if_pos rfl, if_pos (show j < j + 1 by omega)]
            unfold telD
            rw [hf]
            rfl
          · rw [if_neg e]
            by_cases e2 : j < i
            · rw [if_pos e2, if_pos (by omega)]
            · rw [if_neg e2, if_neg (by omega)]
      · have h0 : ¬ t i = 0 := lcn h rfl rfl
        have hf0 : (telF p t (invp p (t fi))) i = smv p (t i * invp p (t fi) % p) 500 1 := by unfold telF; rw [if_neg h0]
        have hmm := rz_mul hp (ht i hi9) (rz_mod hp ((t fi % p) ^ (p - 2).toNat))
        refine ⟨i, rfl, by omega, by omega, ?_⟩
        refine ⟨pok_ne hp, ?_⟩
        have ev : zl (t i) * zl (invp p (t fi)) - zl (t i) * zl (invp p (t fi)) / zl p * zl p = zl (t i * invp p (t fi) % p) := zl_rm hp (zl_mul _ _) hmm.1 (by have := hmm.2; unfold invp; omega)
        have hcs := c_small l n nm ng ns ngr av be so ro tb gv sd gr row (fun i => zl (t i)) (vp_updL (fun j => if j < i then zl (telN (telF p t (invp p (t fi))) j) else one j) i (Int64.ofNat ((0 : Fin 2) : Nat))) (vp_updL (fun j => if j < i then zl (telD (telF p t (invp p (t fi))) j) else two j) i (Int64.ofNat ((1 : Fin 2) : Nat))) p hp (t i * invp p (t fi) % p) (rz_mod hp _)
        rw [← ev] at hcs
        refine hX.callV0 (rest := []) hcs yX11_small_ok lkX11_162 ivX11_small slX11_small ⟨rfl, rfl, by decide, by decide⟩ (kX11_tellBack_ok.at 100 rfl) rfl rfl (by decide) rfl rfl rfl (fun _ _ q => by rcases q with ⟨_, _, -, -, rfl⟩ | ⟨-, -, rfl⟩ <;> rfl) (fun r9 G1 q => ?_)
        rcases q with ⟨m, e, q1, rfl, rfl⟩ | ⟨q1, rfl, rfl⟩
        rotate_left
        · rw [← hf0] at q1
          refine hX.run (oc := [(91, oGcd), (300, oInv p)]) kX11_tellBack_ok ftX11_ok ctX11_ok hoc [] [103] [] 60 ?_
          exact no _ _ _ _ _ (hvn _ hall.symm (by rw [telA, q1]))
        rw [← hf0] at q1
        have hin := telF_in q1
        have hpos := lcmv_pos ha1 hin.2.1
        have hle5 : all * e ≤ 250000 := by
          have := (ab_mul (A := 500) (B := 500) (a := all) (b := e) ⟨by omega, by omega⟩ ⟨by omega, by omega⟩).2
          omega
        have je : jr e := ⟨by omega, by omega⟩
        have ja : jr all := ⟨by omega, by omega⟩
        have hgp : 0 < Int.gcd all e := Int.gcd_pos_of_ne_zero_left _ (by omega)
        have hgl : (Int.gcd all e : Int) ≤ all := Int.le_of_dvd (by omega) (Int.gcd_dvd_left ..)
        have jg : jr (Int.gcd all e : Int) := ⟨by omega, by omega⟩
        have el : zl all / zl (Int.gcd all e : Int) * zl e = zl (lcmv all e) := by
          rw [zl_div ja jg, Int.tdiv_eq_ediv_of_nonneg (by omega), zl_mul]
          rfl
        refine hX.run (oc := [(91, oGcd), (300, oInv p)]) kX11_tellBack_ok ftX11_ok ctX11_ok hoc [160] [103] [64, 72, 79, 92, 118, 129] 90 ?_
        refine ⟨i, rfl, by omega, by omega, ?_⟩
        refine ⟨i, rfl, by omega, by omega, ?_⟩
        refine ⟨by rw [zl_to ja]; exact ja, by rw [zl_to je]; exact je, ?_⟩
        rw [zl_to ja, zl_to je]
        refine ⟨fun h => ?_, ?_⟩
        · have h2 : zl (Int.gcd all e : Int) = zl 0 := h
          rw [zl_eq jg j0] at h2
          omega
        refine ⟨fun h => ?_, fun h => ?_⟩
        · have h1 : zl (lcmv all e) ≤ zl 500 := by rw [← el]; exact lgc_le.mp h
          rw [zl_le ⟨by omega, by omega⟩ ⟨by omega, by omega⟩] at h1
          refine next m e _ _ _ _ _ q1 (by omega) el (fun j hj => ?_) (fun j hj => ?_)
          · unfold vp_updL
            dsimp only
            by_cases e3 : j = i
            · subst e3
              rw [if_pos rfl, if_pos (show j < j + 1 by omega)]
              unfold telN
              rw [q1]
            · rw [if_neg e3, if_neg e3]
              by_cases e2 : j < i
              · rw [if_pos e2, if_pos (by omega)]
              · rw [if_neg e2, if_neg (by omega)]
          · unfold vp_updL
            dsimp only
            by_cases e3 : j = i
            · subst e3
              rw [if_pos rfl, if_pos (show j < j + 1 by omega)]
              unfold telD
              rw [q1]
            · rw [if_neg e3, if_neg e3]
              by_cases e2 : j < i
              · rw [if_pos e2, if_pos (by omega)]
              · rw [if_neg e2, if_neg (by omega)]
        · have h1 : ¬ zl (lcmv all e) ≤ zl 500 := fun q => h (lgc_le.mpr (by rw [← el] at q; exact q))
          rw [zl_le ⟨by omega, by omega⟩ ⟨by omega, by omega⟩] at h1
          exact no _ _ _ _ _ (hvn _ hall.symm (by rw [telA, q1]; dsimp only; rw [if_pos (by omega)]))
  have seek : ∀ (d fi : Nat), d + fi = 9 → fnd (nzB t) 9 0 = fnd (nzB t) d fi → X 2 [some (.ref 0), some (.int (nI fi)), none, none, none, none, none] [] (GR n nm ng ns ngr (zl p) av be so ro tb gv sd gr row (fun i => zl (t i)) one two) := by
    intro d
    induction d with
    | zero =>
      intro fi hfi hfn
      have hfi : fi = 9 := by omega
      subst hfi
      refine hX.run (oc := [(91, oGcd), (300, oInv p)]) kX11_tellBack_ok ftX11_ok ctX11_ok hoc [] [28] [] 60 ?_
      refine ⟨fun _ => ?_, fun h => absurd (nI_le (Nat.le_refl 9) (by omega)) h⟩
      exact no _ _ _ _ _ (by unfold telV; rw [hfn]; rfl)
    | succ d ih =>
      intro fi hfi hfn
      have hf9 : fi < 9 := by omega
      have hih := ih (fi + 1) (by omega)
      rw [← nI_1 fi] at hih
      refine hX.run (oc := [(91, oGcd), (300, oInv p)]) kX11_tellBack_ok ftX11_ok ctX11_ok hoc [2, 50] [] [13, 39] 60 ?_
      refine ⟨fun h => absurd h (nI_ge (a := fi) (b := 9) (by omega) (by omega)), fun _ => ?_⟩
      refine ⟨fi, rfl, by omega, by omega, ?_⟩
      refine ⟨fun h => ?_, fun h => ?_⟩
      · have h0 : t fi = 0 := lce h rfl rfl (jt fi hf9) j0
        exact hih (by rw [hfn, fnd]; unfold nzB; rw [decide_eq_false (fun q => q h0)]; rfl)
      · have h0 : ¬ t fi = 0 := lcn h rfl rfl
        have hfn2 : fnd (nzB t) 9 0 = some fi := by
          rw [hfn, fnd]
          unfold nzB
          rw [decide_eq_true h0]
          rfl
        refine ⟨fun h2 => ?_, fun _ => ?_⟩
        · exfalso
          have h3 : nI fi = nI 9 := h2
          rw [nI_eq (by omega) (by omega)] at h3
          omega
        refine ⟨fi, rfl, by omega, by omega, ?_⟩
        refine ⟨rfl, t fi, rfl, jt fi hf9, ?_⟩
        have := loop fi hf9 h0 hfn2 9 0 1 av be _ (by omega) rfl (fun j hj => absurd hj (Nat.not_lt_zero j)) (by omega) (by omega) rfl
        refine hX.alike this ⟨xsame_rf _, xsame_rf _, xsame_rf _, xsame_rf _, xsame_rf _, xsame_rf _, xsame_rf _, xsame_rf _, xsame_rf _, ⟨rfl, fun j hj => ?_⟩, ⟨rfl, fun j hj => ?_⟩, trivial⟩
        · dsimp only
          rw [if_neg (Nat.not_lt_zero j)]
        · dsimp only
          rw [if_neg (Nat.not_lt_zero j)]
  have := seek 9 0 (by omega) rfl
  refine hX.run (oc := [(91, oGcd), (300, oInv p)]) kX11_tellBack_ok ftX11_ok ctX11_ok hoc [2] [] [] 60 ?_
  exact this
