/-! the abstract state, and the calls on objects that make or read one -/
abbrev SM : Type := Nat × (Nat → Nat → Int)
abbrev SV : Type := Nat × (Nat → Nat)
/-- objects, maps, the row, seeds, the group -/
abbrev SS : Type := SO × SM × SV × SV × SM
def RT (c : Nat) (M : SM) (tb : Nat → Int32) : Prop := M.1 ≤ c ∧ ∀ k i, k < M.1 → i < 9 → tb (9 * k + i) = zi (M.2 k i) ∧ -500 ≤ M.2 k i ∧ M.2 k i ≤ 500
def RV (c lim : Nat) (V : SV) (gv : Nat → Int32) : Prop := V.1 ≤ c ∧ ∀ k, k < V.1 → gv k = nI (V.2 k) ∧ V.2 k < lim
/-- the reference's cells hold the abstract state -/
def RInv (S : SS) (G : List xE) : Prop := ∃ pp ab be so ro tb gv sd gr row table one two, G = GR (nI S.1.1) (nI S.2.1.1) (nI S.2.2.1.1) (nI S.2.2.2.1.1) (nI S.2.2.2.2.1) pp ab be so ro tb gv sd gr row table one two ∧ RO S.1 so ro ∧ RT 40 S.2.1 tb ∧ RV 8 S.1.1 S.2.2.1 gv ∧ RV 4 S.2.1.1 S.2.2.2.1 sd ∧ RT 48 S.2.2.2.2 gr ∧ 1 ≤ S.2.2.2.2.1
theorem gN_zero {z : Nat → Int} : ∀ {n : Nat}, gN z n = 0 → ∀ i, i < n → z i = 0
  | 0, _, i, h => by omega
  | n + 1, h, i, hi => by
    have h1 : Nat.gcd (gN z n) (z n).natAbs = 0 := h
    have h2 := Nat.eq_zero_of_gcd_eq_zero_left h1
    have h3 := Nat.eq_zero_of_gcd_eq_zero_right h1
    by_cases e : i = n
    · subst e; omega
    · exact gN_zero h2 i (by omega)
theorem gN_congr {z w : Nat → Int} : ∀ {n : Nat}, (∀ i, i < n → z i = w i) → gN z n = gN w n
  | 0, _ => rfl
  | n + 1, h => by
    unfold gN
    rw [gN_congr (n := n) (fun i hi => h i (by omega)), h n (by omega)]
theorem fN_congr {z w : Nat → Int} : ∀ {n : Nat}, (∀ i, i < n → z i = w i) → fN z n = fN w n
  | 0, _ => rfl
  | n + 1, h => by
    unfold fN
    rw [fN_congr (n := n) (fun i hi => h i (by omega)), h n (by omega)]
theorem lst_congr {z w : Nat → Int} {n : Nat} (h : ∀ i, i < n → z i = w i) (i : Nat) (hi : i < n) : lst z n i = lst w n i := by
  unfold lst sN
  rw [gN_congr h, fN_congr h, h i hi]
theorem lrow_congr {z w : Nat → Int} {n : Nat} (h : ∀ i, i < n → z i = w i) : lrow z n = lrow w n := by
  funext i
  unfold lrow
  by_cases hi : i < n
  · rw [if_pos hi, if_pos hi, lst_congr h i hi]
  · rw [if_neg hi, if_neg hi]
theorem fit_congr {z w : Nat → Int} {n : Nat} (h : ∀ i, i < n → z i = w i) : ∀ {k : Nat}, k ≤ n → fit z n k = fit w n k
  | 0, _ => rfl
  | k + 1, hk => by
    unfold fit
    rw [fit_congr h (k := k) (by omega), lst_congr h k (by omega)]
theorem addO_congr {z w : Nat → Int} {n : Nat} (h : ∀ i, i < n → z i = w i) (S : SO) (s : Nat) : addO S s n z = addO S s n w := by
  unfold addO
  rw [fit_congr h (Nat.le_refl n), lrow_congr h]
def vec3 (a b c : Int) : Nat → Int := fun i => if i = 0 then a else if i = 1 then b else c
def in5 (z : Int) : Prop := -500 ≤ z ∧ z ≤ 500
def sp3 (S : SO) (s : Nat) (a b c : Int) : Int × SO := if (-500 ≤ a ∧ a ≤ 500) ∧ (-500 ≤ b ∧ b ≤ 500) ∧ (-500 ≤ c ∧ c ≤ 500) then (if a = 0 ∧ b = 0 ∧ c = 0 then (-3, S) else addO S s 3 (vec3 a b c)) else (-2, S)
def vec6 (a b c d e f : Int) : Nat → Int := fun i => if i = 0 then a else if i = 1 then b else if i = 2 then c else if i = 3 then d else if i = 4 then e else f
def sp6 (S : SO) (a b c d e f : Int) : Int × SO := if (-500 ≤ a ∧ a ≤ 500) ∧ (-500 ≤ b ∧ b ≤ 500) ∧ (-500 ≤ c ∧ c ≤ 500) ∧ (-500 ≤ d ∧ d ≤ 500) ∧ (-500 ≤ e ∧ e ≤ 500) ∧ (-500 ≤ f ∧ f ≤ 500) then (if a = 0 ∧ b = 0 ∧ c = 0 ∧ d = 0 ∧ e = 0 ∧ f = 0 then (-3, S) else addO S 2 6 (vec6 a b c d e f)) else (-2, S)
theorem i64 (x : Int32) : x.toInt64 = zl x.toInt := rfl
theorem i32_jr (x : Int32) : jr x.toInt := by
  have h1 := Int32.le_toInt x
  have h2 := Int32.toInt_lt x
  constructor <;> omega
theorem in_5 {x : Int32} : ((-500 : Int64) ≤ x.toInt64 ∧ x.toInt64 ≤ 500) ↔ (-500 ≤ x.toInt ∧ x.toInt ≤ 500) := by
  have e1 : (-500 : Int64) = zl (-500) := rfl
  have e2 : (500 : Int64) = zl 500 := rfl
  rw [e1, e2, i64, zl_le ⟨by omega, by omega⟩ (i32_jr x), zl_le (i32_jr x) ⟨by omega, by omega⟩]
theorem i32_0 {x : Int32} : x = 0 ↔ x.toInt = 0 := by
  rw [← Int32.toInt_inj]; rfl
set_option maxHeartbeats 4000000 in
set_option maxRecDepth 100000 in
/-- three(sort, a, b, c) -/
theorem c_three (l : Launch) (nm ng ns ngr : Int32) (pp ab be : Int64) (so ro tb gv sd gr : Nat → Int32) (row table one two : Nat → Int64) (S : SO) (s : Nat) (hs : s ≤ 1) (hS : RO S so ro) (x y w : Int32) : xM l yX11_three cX11_three 5 (some .int) rX11_three [.ref 0, .int (nI s), .int x, .int y, .int w] (GR (nI S.1) nm ng ns ngr pp ab be so ro tb gv sd gr row table one two) (fun r G => ∃ so' ro' row', r = some (.int (zi (sp3 S s x.toInt y.toInt w.toInt).1)) ∧ RO (sp3 S s x.toInt y.toInt w.toInt).2 so' ro' ∧ G = GR (nI (sp3 S s x.toInt y.toInt w.toInt).2.1) nm ng ns ngr pp ab be so' ro' tb gv sd gr row' table one two) := by
  refine xM.of (by decide) (Nat.le_of_ble_eq_true rfl) (fun X hX => ?_)
  have hoc := xoc1 (oIn_ok hX (by decide)) xnoc
  have out : ¬ ((-500 ≤ x.toInt ∧ x.toInt ≤ 500) ∧ (-500 ≤ y.toInt ∧ y.toInt ≤ 500) ∧ (-500 ≤ w.toInt ∧ w.toInt ≤ 500)) → ∃ so' ro' row', some (Value.int (Int8.ofInt (-2)).toInt32) = some (.int (zi (sp3 S s x.toInt y.toInt w.toInt).1)) ∧ RO (sp3 S s x.toInt y.toInt w.toInt).2 so' ro' ∧ (GR (nI S.1) nm ng ns ngr pp ab be so ro tb gv sd gr row table one two) = GR (nI (sp3 S s x.toInt y.toInt w.toInt).2.1) nm ng ns ngr pp ab be so' ro' tb gv sd gr row' table one two := by
    intro h
    have e : sp3 S s x.toInt y.toInt w.toInt = (-2, S) := by unfold sp3; rw [if_neg h]
    rw [e]
    exact ⟨so, ro, row, rfl, hS, rfl⟩
  have put : (-500 ≤ x.toInt ∧ x.toInt ≤ 500) ∧ (-500 ≤ y.toInt ∧ y.toInt ≤ 500) ∧ (-500 ≤ w.toInt ∧ w.toInt ≤ 500) → ¬ (x.toInt = 0 ∧ y.toInt = 0 ∧ w.toInt = 0) → X 62 [some (.ref 0), some (.int (nI s)), some (.int x), some (.int y), some (.int w)] [] (GR (nI S.1) nm ng ns ngr pp ab be so ro tb gv sd gr row table one two) := by
    intro hin hne
    have hw3 : wid s = 3 := by unfold wid; rw [if_neg (by omega)]
    have ez : ∀ i, i < 3 → (fun i => if i = 0 then x.toInt else if i = 1 then y.toInt else if i = 2 then w.toInt else (row i).toInt) i = vec3 x.toInt y.toInt w.toInt i := by
      intro i hi
      rcases (show i = 0 ∨ i = 1 ∨ i = 2 by omega) with rfl | rfl | rfl <;> rfl
    have hc := c_object l nm ng ns ngr pp ab be so ro tb gv sd gr table one two S s (fun i => if i = 0 then x.toInt else if i = 1 then y.toInt else if i = 2 then w.toInt else (row i).toInt) (by omega) hS (fun i hi => by
      rw [hw3] at hi
      rcases (show i = 0 ∨ i = 1 ∨ i = 2 by omega) with rfl | rfl | rfl <;> exact i32_jr _) (by
      intro h0
      rw [hw3] at h0
      exact hne ⟨gN_zero h0 0 (by omega), gN_zero h0 1 (by omega), gN_zero h0 2 (by omega)⟩)
    rw [hw3, addO_congr ez] at hc
    have e : sp3 S s x.toInt y.toInt w.toInt = addO S s 3 (vec3 x.toInt y.toInt w.toInt) := by unfold sp3; rw [if_pos hin, if_neg hne]
    refine hX.run (oc := [(125, oIn)]) kX11_three_ok ftX11_ok ctX11_ok hoc [] [] [] 60 ?_
    refine hX.alike (G2 := GR (nI S.1) nm ng ns ngr pp ab be so ro tb gv sd gr (fun i => zl ((fun i => if i = 0 then x.toInt else if i = 1 then y.toInt else if i = 2 then w.toInt else (row i).toInt) i)) table one two) ?_ ⟨xsame_rf _, xsame_rf _, xsame_rf _, xsame_rf _, xsame_rf _, xsame_rf _, xsame_rf _, ⟨rfl, fun i hi => ?_⟩, xsame_rf _, xsame_rf _, xsame_rf _, trivial⟩
    · refine hX.callV0 hc yX11_object_ok lkX11_66 ivX11_object slX11_object ⟨rfl, rfl, by decide, by decide⟩ (kX11_three_ok.at 89 rfl) rfl rfl (by decide) rfl rfl rfl (fun _ _ q => by obtain ⟨_, _, _, -, -, rfl⟩ := q; rfl) (fun r9 G1 q => ?_)
      obtain ⟨so2, ro2, row2, rfl, q2, rfl⟩ := q
      refine hX.run (oc := [(125, oIn)]) kX11_three_ok ftX11_ok ctX11_ok hoc [] [] [] 60 ?_
      rw [e]
      exact ⟨so2, ro2, row2, rfl, q2, rfl⟩
    · unfold vp_updL
      dsimp only
      by_cases h2 : i = 2
      · subst h2; rfl
      by_cases h1 : i = 1
      · subst h1; rfl
      by_cases h0 : i = 0
      · subst h0; rfl
      rw [if_neg h2, if_neg h1, if_neg h0, if_neg h0, if_neg h1, if_neg h2]
      exact (zl_of _).symm
  refine hX.run (oc := [(125, oIn)]) kX11_three_ok ftX11_ok ctX11_ok hoc [62] [11, 25, 40] [] 60 ?_
  refine ⟨fun h1 => ?_, fun h1 => out (fun q => h1 (in_5.mpr q.1))⟩
  refine ⟨fun h2 => ?_, fun h2 => out (fun q => h2 (in_5.mpr q.2.1))⟩
  refine ⟨fun h3 => ?_, fun h3 => out (fun q => h3 (in_5.mpr q.2.2))⟩
  have hin := And.intro (in_5.mp h1) (And.intro (in_5.mp h2) (in_5.mp h3))
  refine ⟨fun h4 => ?_, fun h4 => put hin (fun q => h4 (i32_0.mpr q.1))⟩
  refine ⟨fun h5 => ?_, fun h5 => put hin (fun q => h5 (i32_0.mpr q.2.1))⟩
  refine ⟨fun h6 => ?_, fun h6 => put hin (fun q => h6 (i32_0.mpr q.2.2))⟩
  have e : sp3 S s x.toInt y.toInt w.toInt = (-3, S) := by unfold sp3; rw [if_pos hin, if_pos ⟨i32_0.mp h4, i32_0.mp h5, i32_0.mp h6⟩]
  rw [e]
  exact ⟨so, ro, row, rfl, hS, rfl⟩
