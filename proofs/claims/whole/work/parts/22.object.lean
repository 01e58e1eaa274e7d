/-! abstract objects and maps -/
def wid (s : Nat) : Nat := if s = 2 then 6 else 3
def alB (P : Nat → Bool) : Nat → Bool
  | 0 => true
  | i + 1 => alB P i && P i
/-- the first of d numbers from k on -/
def fnd (P : Nat → Bool) : Nat → Nat → Option Nat
  | 0, _ => none
  | d + 1, k => if P k then some k else fnd P d (k + 1)
theorem fnd_lt {P : Nat → Bool} : ∀ {d k j : Nat}, fnd P d k = some j → k ≤ j ∧ j < k + d ∧ P j = true
  | 0, k, j, h => by simp [fnd] at h
  | d + 1, k, j, h => by
    unfold fnd at h
    split at h
    next hp => cases h; exact ⟨Nat.le_refl _, by omega, hp⟩
    next hp =>
      have := fnd_lt h
      exact ⟨by omega, by omega, this.2.2⟩
theorem fnd_no {P : Nat → Bool} : ∀ {d k : Nat}, fnd P d k = none → ∀ j, k ≤ j → j < k + d → P j = false
  | 0, k, h, j, h1, h2 => by omega
  | d + 1, k, h, j, h1, h2 => by
    unfold fnd at h
    split at h
    next => cases h
    next hp =>
      by_cases e : j = k
      · subst e; simpa using hp
      · exact fnd_no h j (by omega) (by omega)
def hitO (srt : Nat → Nat) (rw : Nat → Nat → Int) (s n : Nat) (w : Nat → Int) (k : Nat) : Bool := decide (srt k = s) && alB (fun i => decide (rw k i = w i)) n
def lrow (z : Nat → Int) (n : Nat) : Nat → Int := fun i => if i < n then lst z n i else 0
/-- objects: number, sorts, rows; what becomes of a row that comes to them -/
abbrev SO : Type := Nat × (Nat → Nat) × (Nat → Nat → Int)
def addO (S : SO) (s n : Nat) (z : Nat → Int) : Int × SO :=
  if fit z n n then
    match fnd (hitO S.2.1 S.2.2 s n (lrow z n)) S.1 0 with
    | some k => ((k : Int), S)
    | none => if S.1 = 60 then (-4, S) else ((S.1 : Int), S.1 + 1, fun k => if k = S.1 then s else S.2.1 k, fun k => if k = S.1 then lrow z n else S.2.2 k)
  else (-4, S)
/-- the reference's objects -/
def RO (S : SO) (so ro : Nat → Int32) : Prop := S.1 ≤ 60 ∧ (∀ k, k < S.1 → so k = nI (S.2.1 k) ∧ S.2.1 k ≤ 2) ∧ (∀ k i, k < S.1 → i < wid (S.2.1 k) → ro (6 * k + i) = zi (S.2.2 k i) ∧ -500 ≤ S.2.2 k i ∧ S.2.2 k i ≤ 500)
theorem fit_le {z : Nat → Int} {n : Nat} : ∀ {k : Nat}, fit z n k = true → ∀ i, i < k → -500 ≤ lst z n i ∧ lst z n i ≤ 500
  | 0, _, i, h => by omega
  | k + 1, h, i, hi => by
    unfold fit at h
    simp only [Bool.and_eq_true, decide_eq_true_eq] at h
    by_cases e : i = k
    · subst e; exact h.2
    · exact fit_le h.1 i (by omega)
theorem zi_eq {a b : Int} (ha : -500 ≤ a ∧ a ≤ 500) (hb : -500 ≤ b ∧ b ≤ 500) : zi a = zi b ↔ a = b := by
  constructor
  · intro h
    have h2 := congrArg Int32.toInt h
    rw [zi_to (by omega), zi_to (by omega)] at h2
    exact h2
  · intro h; rw [h]
theorem wid_le (s : Nat) : wid s ≤ 6 := by unfold wid; split <;> omega
theorem nI_inj {a b : Nat} (ha : a < 1000) (hb : b < 1000) : nI a = nI b ↔ a = b := nI_eq (by omega) (by omega)
set_option maxHeartbeats 4000000 in
set_option maxRecDepth 100000 in
/-- object(sort): the row that stands in 'row' comes to the objects -/
theorem c_object (l : Launch) (nm ng ns ngr : Int32) (pp ab be : Int64) (so ro tb gv sd gr : Nat → Int32) (table one two : Nat → Int64) (S : SO) (s : Nat) (z : Nat → Int) (hs : s ≤ 2) (hS : RO S so ro) (hz : ∀ i, i < wid s → jr (z i)) (hg : gN z (wid s) ≠ 0) :
    xM l yX11_object cX11_object 6 (some .int) rX11_object [.ref 0, .int (nI s)] (GR (nI S.1) nm ng ns ngr pp ab be so ro tb gv sd gr (fun i => zl (z i)) table one two) (fun r G => ∃ so' ro' row', r = some (.int (zi (addO S s (wid s) z).1)) ∧ RO (addO S s (wid s) z).2 so' ro' ∧ G = GR (nI (addO S s (wid s) z).2.1) nm ng ns ngr pp ab be so' ro' tb gv sd gr row' table one two) := by
  refine xM.of (by decide) (Nat.le_of_ble_eq_true rfl) (fun X hX => ?_)
  have hw := wid_le s
  obtain ⟨hN, hso, hro⟩ := id hS
  generalize hN0 : S.1 = N at hN hso hro
  -- the end: found nowhere
  have e6 : ∀ k i : Nat, ixR (nI k) (nI i) = nI (6 * k + i) := ixR_nI
  have hlr : ∀ i, i < wid s → lrow z (wid s) i = lst z (wid s) i := fun i hi => by unfold lrow; rw [if_pos hi]
  have fillend : ∀ (hf : fit z (wid s) (wid s) = true) (hno : fnd (hitO S.2.1 S.2.2 s (wid s) (lrow z (wid s))) N 0 = none) (h60 : ¬ N = 60), ∀ d i, d + i = wid s → X 142 [some (.ref 0), some (.int (nI s)), some (.int (nI (wid s))), some (.int (nI i)), none, none] [] (GR (nI N) nm ng ns ngr pp ab be ((upd so N (nI s))) ((fun j => if 6 * N ≤ j ∧ j < 6 * N + i then zi (lrow z (wid s) (j - 6 * N)) else ro j)) tb gv sd gr (fun i => zl (if i < wid s then lst z (wid s) i else z i)) table one two) := by
    intro hf hno h60 d
    have hadd : addO S s (wid s) z = ((N : Int), N + 1, fun k => if k = N then s else S.2.1 k, fun k => if k = N then lrow z (wid s) else S.2.2 k) := by
      unfold addO
      rw [if_pos hf, hN0, hno]
      simp only [h60, if_false]
    induction d with
    | zero =>
      intro i hi
      have hi : i = wid s := by omega
      subst hi
      refine hX.run (oc := []) kX11_object_ok ftX11_ok ctX11_ok xnoc [] [] [] 80 ?_
      refine ⟨fun _ => ?_, fun h => absurd (nI_le (Nat.le_refl _) (by omega)) h⟩
      refine ⟨upd so N (nI s), (fun j => if 6 * N ≤ j ∧ j < 6 * N + wid s then zi (lrow z (wid s) (j - 6 * N)) else ro j), fun i => zl (if i < wid s then lst z (wid s) i else z i), ?_, ?_, ?_⟩
      · rw [hadd]
        show some (Value.int (nI N + 1 - 1)) = some (Value.int (zi ((N : Nat) : Int)))
        rw [nI_1, nI_pred, zi_nI]
      · rw [hadd]
        refine ⟨by show N + 1 ≤ 60; omega, ?_, ?_⟩
        · intro k hk
          dsimp only at hk ⊢
          unfold upd
          by_cases e : k = N
          · subst e; rw [if_pos rfl, if_pos rfl]; exact ⟨rfl, hs⟩
          · rw [if_neg e, if_neg e]; exact hso k (by omega)
        · intro k i hk hi
          dsimp only at hk hi ⊢
          by_cases e : k = N
          · subst e
            rw [if_pos rfl] at hi ⊢
            rw [if_pos ⟨by omega, by omega⟩, show 6 * k + i - 6 * k = i by omega, hlr i hi]
            exact ⟨rfl, fit_le hf i hi⟩
          · rw [if_neg e] at hi ⊢
            have := wid_le (S.2.1 k)
            rw [if_neg (by omega)]
            exact hro k i (by omega) hi
      · rw [hadd]
        show GR (nI N + 1) _ _ _ _ _ _ _ _ _ _ _ _ _ _ _ _ _ = GR (nI (N + 1)) _ _ _ _ _ _ _ _ _ _ _ _ _ _ _ _ _
        rw [nI_1]
    | succ d ih =>
      intro i hi
      have hih := ih (i + 1) (by omega)
      rw [← nI_1] at hih
      refine hX.run (oc := []) kX11_object_ok ftX11_ok ctX11_ok xnoc [142] [] [165, 167] 80 ?_
      refine ⟨fun h => absurd h (nI_ge (by omega) (by omega)), fun _ => ?_⟩
      refine ⟨i, rfl, by omega, by omega, ?_⟩
      refine ⟨6 * N + i, e6 N i, by omega, by omega, ?_⟩
      refine hX.alike hih ⟨xsame_rf _, xsame_rf _, ⟨rfl, fun j hj => ?_⟩, xsame_rf _, xsame_rf _, xsame_rf _, xsame_rf _, xsame_rf _, xsame_rf _, xsame_rf _, xsame_rf _, trivial⟩
      unfold upd
      dsimp only
      by_cases e : j = 6 * N + i
      · subst e
        rw [if_pos rfl, if_pos (show i < wid s by omega), if_pos ⟨by omega, by omega⟩, show 6 * N + i - 6 * N = i by omega, hlr i (by omega)]
        exact zi_l _
      · rw [if_neg e]
        by_cases h2 : 6 * N ≤ j ∧ j < 6 * N + i
        · rw [if_pos h2, if_pos ⟨by omega, by omega⟩]
        · rw [if_neg h2, if_neg (by omega)]
  -- looking for it
  have outer : ∀ (hf : fit z (wid s) (wid s) = true), ∀ d k, d + k = N → fnd (hitO S.2.1 S.2.2 s (wid s) (lrow z (wid s))) N 0 = fnd (hitO S.2.1 S.2.2 s (wid s) (lrow z (wid s))) d k → X 29 [some (.ref 0), some (.int (nI s)), some (.int (nI (wid s))), some (.int (nI k)), none, none] [] (GR (nI N) nm ng ns ngr pp ab be so ro tb gv sd gr (fun i => zl (if i < wid s then lst z (wid s) i else z i)) table one two) := by
    intro hf d
    induction d with
    | zero =>
      intro k hk hfn
      have hk : k = N := by omega
      subst hk
      have hno : fnd (hitO S.2.1 S.2.2 s (wid s) (lrow z (wid s))) k 0 = none := by rw [hfn]; rfl
      refine hX.run (oc := []) kX11_object_ok ftX11_ok ctX11_ok xnoc [142] [] [139] 80 ?_
      refine ⟨fun _ => ?_, fun h => absurd (nI_le (Nat.le_refl _) (by omega)) h⟩
      refine ⟨fun h => ?_, fun h => ?_⟩
      · have h60 : k = 60 := by
          have h1 : nI k = nI 60 := h
          rwa [nI_eq (by omega) (by omega)] at h1
        have hadd : addO S s (wid s) z = (-4, S) := by
          unfold addO
          rw [if_pos hf, hN0, hno]
          simp only [h60, if_true]
        refine ⟨so, ro, fun i => zl (if i < wid s then lst z (wid s) i else z i), ?_, ?_, ?_⟩
        · rw [hadd]; rfl
        · rw [hadd]; exact hS
        · rw [hadd, hN0]
      · have h60 : ¬ k = 60 := by
          intro e
          subst e
          exact h rfl
        refine ⟨k, rfl, by omega, by omega, ?_⟩
        refine hX.alike (fillend hf hno h60 (wid s) 0 (by omega)) ⟨xsame_rf _, xsame_rf _, ⟨rfl, fun j hj => ?_⟩, xsame_rf _, xsame_rf _, xsame_rf _, xsame_rf _, xsame_rf _, xsame_rf _, xsame_rf _, xsame_rf _, trivial⟩
        dsimp only
        rw [if_neg (by omega)]
    | succ d ih =>
      intro k hk hfn
      have behind : ∀ b, b = hitO S.2.1 S.2.2 s (wid s) (lrow z (wid s)) k → X 105 [some (.ref 0), some (.int (nI s)), some (.int (nI (wid s))), some (.int (nI k)), some (.int (bI b)), none] [] (GR (nI N) nm ng ns ngr pp ab be so ro tb gv sd gr (fun i => zl (if i < wid s then lst z (wid s) i else z i)) table one two) := by
        intro b hb
        refine hX.run (oc := []) kX11_object_ok ftX11_ok ctX11_ok xnoc [29] [] [] 80 ?_
        refine ⟨fun h => ?_, fun h => ?_⟩
        · have hb0 := bI_0.mp h
          have hih := ih (k + 1) (by omega) (by rw [hfn]; rw [fnd, ← hb, hb0]; rfl)
          rw [← nI_1] at hih
          exact hX.less hih ⟨rfl, rfl, rfl, rfl, trivial⟩
        · have hb1 : b = true := by
            cases hbb : b with
            | true => rfl
            | false => exact absurd (bI_0.mpr hbb) h
          have hadd : addO S s (wid s) z = ((k : Int), S) := by
            unfold addO
            rw [if_pos hf, hN0, hfn, fnd, ← hb, hb1]
            rfl
          refine ⟨so, ro, fun i => zl (if i < wid s then lst z (wid s) i else z i), ?_, ?_, ?_⟩
          · rw [hadd]; rfl
          · rw [hadd]; exact hS
          · rw [hadd, hN0]
      have inner : ∀ d2 i, d2 + i = wid s → X 57 [some (.ref 0), some (.int (nI s)), some (.int (nI (wid s))), some (.int (nI k)), some (.int (bI (decide (S.2.1 k = s) && alB (fun i => decide (S.2.2 k i = lrow z (wid s) i)) i))), some (.int (nI i))] [] (GR (nI N) nm ng ns ngr pp ab be so ro tb gv sd gr (fun i => zl (if i < wid s then lst z (wid s) i else z i)) table one two) := by
        intro d2
        induction d2 with
        | zero =>
          intro i hi
          have hi : i = wid s := by omega
          subst hi
          refine hX.run (oc := []) kX11_object_ok ftX11_ok ctX11_ok xnoc [105] [] [] 80 ?_
          refine ⟨fun _ => ?_, fun h => absurd (nI_le (Nat.le_refl _) (by omega)) h⟩
          exact hX.less (behind _ rfl) ⟨rfl, rfl, rfl, rfl, rfl, trivial⟩
        | succ d2 ih2 =>
          intro i hi
          have hih := ih2 (i + 1) (by omega)
          rw [← nI_1, alB, ← Bool.and_assoc] at hih
          refine hX.run (oc := []) kX11_object_ok ftX11_ok ctX11_ok xnoc [57] [] [79, 87] 80 ?_
          refine ⟨fun h => absurd h (nI_ge (by omega) (by omega)), fun _ => ?_⟩
          refine ⟨fun h => ?_, fun h => ?_⟩
          · rw [bI_0.mp h, Bool.false_and] at hih
            exact hih
          · have hb1 : (decide (S.2.1 k = s) && alB (fun i => decide (S.2.2 k i = lrow z (wid s) i)) i) = true := by
              cases hbb : (decide (S.2.1 k = s) && alB (fun i => decide (S.2.2 k i = lrow z (wid s) i)) i) with
              | true => rfl
              | false => exact absurd (bI_0.mpr hbb) h
            rw [hb1, Bool.true_and] at hih
            have hsk : S.2.1 k = s := by
              simp only [Bool.and_eq_true, decide_eq_true_eq] at hb1
              exact hb1.1
            obtain ⟨r1, r2⟩ := hro k i (by omega) (by rw [hsk]; omega)
            have r3 := fit_le hf i (by omega)
            refine ⟨6 * k + i, e6 k i, by omega, by omega, ?_⟩
            refine ⟨i, rfl, by omega, by omega, ?_⟩
            have ev : (ro (6 * k + i)).toInt64 = zl (S.2.2 k i) := by rw [r1, zl_i (by omega)]
            have ew : zl (if i < wid s then lst z (wid s) i else z i) = zl (lst z (wid s) i) := by rw [if_pos (by omega)]
            refine ⟨fun h => ?_, fun h => ?_⟩
            · have h1 : (ro (6 * k + i)).toInt64 = zl (if i < wid s then lst z (wid s) i else z i) := lgc_eq.mp h
              rw [ev, ew, zl_eq ⟨by omega, by omega⟩ ⟨by omega, by omega⟩] at h1
              rw [hlr i (by omega), decide_eq_true h1] at hih
              exact hih
            · have h1 : ¬ (ro (6 * k + i)).toInt64 = zl (if i < wid s then lst z (wid s) i else z i) := fun q => h (lgc_eq.mpr q)
              rw [ev, ew, zl_eq ⟨by omega, by omega⟩ ⟨by omega, by omega⟩] at h1
              rw [hlr i (by omega), decide_eq_false h1] at hih
              exact hih
      refine hX.run (oc := []) kX11_object_ok ftX11_ok ctX11_ok xnoc [57] [] [42] 80 ?_
      refine ⟨fun h => absurd h (nI_ge (by omega) (by omega)), fun _ => ?_⟩
      refine ⟨k, rfl, by omega, by omega, ?_⟩
      obtain ⟨s1, s2⟩ := hso k (by omega)
      have hin := inner (wid s) 0 (by omega)
      refine ⟨fun h => ?_, fun h => ?_⟩
      · have h1 : S.2.1 k = s := by
          have h2 : so k = nI s := h
          rwa [s1, nI_eq (by omega) (by omega)] at h2
        rw [decide_eq_true h1] at hin
        exact hin
      · have h1 : ¬ S.2.1 k = s := by
          intro e
          apply h
          rw [s1, e]
        rw [decide_eq_false h1] at hin
        exact hin
  have at12 : X 12 [some (.ref 0), some (.int (nI s)), some (.int (nI (wid s))), none, none, none] [] (GR (nI N) nm ng ns ngr pp ab be so ro tb gv sd gr (fun i => zl (z i)) table one two) := by
    refine hX.run (oc := []) kX11_object_ok ftX11_ok ctX11_ok xnoc [] [] [] 80 ?_
    refine hX.callV [7, 0] [] (c_least l 6 (wid s) hw (by omega) z hz hg) yX11_least_ok lkX11_58 ivX11_least slX11_least ⟨rfl, rfl, by decide, by decide⟩ (kX11_object_ok.at 18 rfl) rfl rfl (by decide) rfl rfl rfl ⟨rfl, trivial⟩ rfl (fun _ _ q => by rw [q.2]; rfl) (fun r G1 q => ?_)
    obtain ⟨rfl, rfl⟩ := q
    refine hX.run (oc := []) kX11_object_ok ftX11_ok ctX11_ok xnoc [29] [] [] 80 ?_
    refine ⟨fun h => ?_, fun h => ?_⟩
    · have hf : fit z (wid s) (wid s) = false := bI_0.mp h
      have hadd : addO S s (wid s) z = (-4, S) := by
        unfold addO
        rw [hf]; rfl
      refine ⟨so, ro, fun i => zl (if i < wid s then lst z (wid s) i else z i), ?_, ?_, ?_⟩
      · rw [hadd]; rfl
      · rw [hadd]; exact hS
      · rw [hadd, hN0]; rfl
    · have hf : fit z (wid s) (wid s) = true := by
        cases hbb : fit z (wid s) (wid s) with
        | true => rfl
        | false => exact absurd (bI_0.mpr hbb) h
      exact outer hf N 0 (by omega) rfl
  refine hX.run (oc := []) kX11_object_ok ftX11_ok ctX11_ok xnoc [12] [] [] 80 ?_
  refine ⟨fun h => ?_, fun h => ?_⟩
  · have h2 : s = 2 := by
      have h1 : nI s = nI 2 := h
      rwa [nI_eq (by omega) (by omega)] at h1
    rw [show wid s = 6 by rw [h2]; rfl] at at12
    exact at12
  · have h2 : ¬ s = 2 := by
      intro e
      subst e
      exact h rfl
    rw [show wid s = 3 by unfold wid; rw [if_neg h2]] at at12
    exact at12
