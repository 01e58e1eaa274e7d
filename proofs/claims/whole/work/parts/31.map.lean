/-! maps and elements: a table that comes to them -/
def hitM (tab : Nat → Nat → Int) (w : Nat → Int) (k : Nat) : Bool := alB (fun i => decide (tab k i = w i)) 9
def addM (M : SM) (z : Nat → Int) : Int × SM :=
  if fit z 9 9 then
    match fnd (hitM M.2 (lrow z 9)) M.1 0 with
    | some k => ((k : Int), M)
    | none => if M.1 = 40 then (-4, M) else ((M.1 : Int), M.1 + 1, fun k => if k = M.1 then lrow z 9 else M.2 k)
  else (-4, M)
theorem addM_congr {z w : Nat → Int} (h : ∀ i, i < 9 → z i = w i) (M : SM) : addM M z = addM M w := by
  unfold addM
  rw [fit_congr h (Nat.le_refl 9), lrow_congr h]
theorem addM_le (M : SM) (z : Nat → Int) : M.1 ≤ (addM M z).2.1 := by
  unfold addM
  split
  · split
    · exact Nat.le_refl _
    · split
      · exact Nat.le_refl _
      · exact Nat.le_succ _
  · exact Nat.le_refl _
set_option maxHeartbeats 4000000 in
set_option maxRecDepth 100000 in
/-- map(): the table that stands in 'table' comes to the maps -/
theorem c_map (l : Launch) (n ng ns ngr : Int32) (pp ab be : Int64) (so ro tb gv sd gr : Nat → Int32) (row one two : Nat → Int64) (M : SM) (z : Nat → Int) (hM : RT 40 M tb) (hz : ∀ i, i < 9 → jr (z i)) (hg : gN z 9 ≠ 0) :
    xM l yX11_map cX11_map 4 (some .int) rX11_map [.ref 0] (GR n (nI M.1) ng ns ngr pp ab be so ro tb gv sd gr row (fun i => zl (z i)) one two) (fun r G => ∃ tb' table', r = some (.int (zi (addM M z).1)) ∧ RT 40 (addM M z).2 tb' ∧ G = GR n (nI (addM M z).2.1) ng ns ngr pp ab be so ro tb' gv sd gr row table' one two) := by
  refine xM.of (by decide) (Nat.le_of_ble_eq_true rfl) (fun X hX => ?_)
  obtain ⟨hN, htb⟩ := id hM
  generalize hN0 : M.1 = N at hN htb
  have e9 : (Int8.ofInt 9).toInt32 = nI 9 := by decide
  have hlr : ∀ i, i < 9 → lrow z 9 i = lst z 9 i := fun i hi => by unfold lrow; rw [if_pos hi]
  have fillend : ∀ (hf : fit z 9 9 = true) (hno : fnd (hitM M.2 (lrow z 9)) N 0 = none) (h40 : ¬ N = 40), ∀ d i, d + i = 9 → X 100 [some (.ref 0), some (.int (nI i)), none, none] [] (GR n (nI N) ng ns ngr pp ab be so ro ((fun j => if 9 * N ≤ j ∧ j < 9 * N + i then zi (lrow z 9 (j - 9 * N)) else tb j)) gv sd gr row (fun i => zl (if i < 9 then lst z 9 i else z i)) one two) := by
    intro hf hno h40 d
    have hadd : addM M z = ((N : Int), N + 1, fun k => if k = N then lrow z 9 else M.2 k) := by
      unfold addM
      rw [if_pos hf, hN0, hno]
      simp only [h40, if_false]
    induction d with
    | zero =>
      intro i hi
      have hi : i = 9 := by omega
      subst hi
      refine hX.run (oc := []) kX11_map_ok ftX11_ok ctX11_ok xnoc [] [] [] 80 ?_
      refine ⟨fun _ => ?_, fun h => absurd (nI_le (Nat.le_refl 9) (by omega)) h⟩
      refine ⟨(fun j => if 9 * N ≤ j ∧ j < 9 * N + 9 then zi (lrow z 9 (j - 9 * N)) else tb j), fun i => zl (if i < 9 then lst z 9 i else z i), ?_, ?_, ?_⟩
      · rw [hadd]
        show some (Value.int (nI N + 1 - 1)) = some (Value.int (zi ((N : Nat) : Int)))
        rw [nI_1, nI_pred, zi_nI]
      · rw [hadd]
        refine ⟨by show N + 1 ≤ 40; omega, ?_⟩
        intro k i hk hi
        dsimp only at hk hi ⊢
        by_cases e : k = N
        · subst e
          rw [if_pos rfl, if_pos ⟨by omega, by omega⟩, show 9 * k + i - 9 * k = i by omega, hlr i hi]
          exact ⟨rfl, fit_le hf i hi⟩
        · rw [if_neg e, if_neg (by omega)]
          exact htb k i (by omega) hi
      · rw [hadd]
        show GR _ (nI N + 1) _ _ _ _ _ _ _ _ _ _ _ _ _ _ _ _ = GR _ (nI (N + 1)) _ _ _ _ _ _ _ _ _ _ _ _ _ _ _ _
        rw [nI_1]
    | succ d ih =>
      intro i hi
      have hih := ih (i + 1) (by omega)
      rw [← nI_1] at hih
      refine hX.run (oc := []) kX11_map_ok ftX11_ok ctX11_ok xnoc [100] [] [124, 126] 80 ?_
      refine ⟨fun h => absurd h (nI_ge (a := i) (b := 9) (by omega) (by omega)), fun _ => ?_⟩
      refine ⟨i, rfl, by omega, by omega, ?_⟩
      refine ⟨9 * N + i, ixT_nI N i, by omega, by omega, ?_⟩
      refine hX.alike hih ⟨xsame_rf _, xsame_rf _, xsame_rf _, ⟨rfl, fun j hj => ?_⟩, xsame_rf _, xsame_rf _, xsame_rf _, xsame_rf _, xsame_rf _, xsame_rf _, xsame_rf _, trivial⟩
      unfold upd
      dsimp only
      by_cases e : j = 9 * N + i
      · subst e
        rw [if_pos rfl, if_pos (show i < 9 by omega), if_pos ⟨by omega, by omega⟩, show 9 * N + i - 9 * N = i by omega, hlr i (by omega)]
        exact zi_l _
      · rw [if_neg e]
        by_cases h2 : 9 * N ≤ j ∧ j < 9 * N + i
        · rw [if_pos h2, if_pos ⟨by omega, by omega⟩]
        · rw [if_neg h2, if_neg (by omega)]
  have outer : ∀ (hf : fit z 9 9 = true), ∀ d k, d + k = N → fnd (hitM M.2 (lrow z 9)) N 0 = fnd (hitM M.2 (lrow z 9)) d k → X 18 [some (.ref 0), some (.int (nI k)), none, none] [] (GR n (nI N) ng ns ngr pp ab be so ro tb gv sd gr row (fun i => zl (if i < 9 then lst z 9 i else z i)) one two) := by
    intro hf d
    induction d with
    | zero =>
      intro k hk hfn
      have hk : k = N := by omega
      subst hk
      have hno : fnd (hitM M.2 (lrow z 9)) k 0 = none := by rw [hfn]; rfl
      refine hX.run (oc := []) kX11_map_ok ftX11_ok ctX11_ok xnoc [100] [] [] 80 ?_
      refine ⟨fun _ => ?_, fun h => absurd (nI_le (Nat.le_refl _) (by omega)) h⟩
      refine ⟨fun h => ?_, fun h => ?_⟩
      · have h40 : k = 40 := by
          have h1 : nI k = nI 40 := h
          rwa [nI_eq (by omega) (by omega)] at h1
        have hadd : addM M z = (-4, M) := by
          unfold addM
          rw [if_pos hf, hN0, hno]
          simp only [h40, if_true]
        refine ⟨tb, fun i => zl (if i < 9 then lst z 9 i else z i), ?_, ?_, ?_⟩
        · rw [hadd]; rfl
        · rw [hadd]; exact hM
        · rw [hadd, hN0]
      · have h40 : ¬ k = 40 := by
          intro e
          subst e
          exact h rfl
        refine hX.alike (fillend hf hno h40 9 0 (by omega)) ⟨xsame_rf _, xsame_rf _, xsame_rf _, ⟨rfl, fun j hj => ?_⟩, xsame_rf _, xsame_rf _, xsame_rf _, xsame_rf _, xsame_rf _, xsame_rf _, xsame_rf _, trivial⟩
        dsimp only
        rw [if_neg (by omega)]
    | succ d ih =>
      intro k hk hfn
      have behind : ∀ b, b = hitM M.2 (lrow z 9) k → X 74 [some (.ref 0), some (.int (nI k)), some (.int (bI b)), none] [] (GR n (nI N) ng ns ngr pp ab be so ro tb gv sd gr row (fun i => zl (if i < 9 then lst z 9 i else z i)) one two) := by
        intro b hb
        refine hX.run (oc := []) kX11_map_ok ftX11_ok ctX11_ok xnoc [18] [] [] 80 ?_
        refine ⟨fun h => ?_, fun h => ?_⟩
        · have hb0 := bI_0.mp h
          have hih := ih (k + 1) (by omega) (by rw [hfn]; rw [fnd, ← hb, hb0]; rfl)
          rw [← nI_1] at hih
          exact hX.less hih ⟨rfl, rfl, trivial⟩
        · have hb1 : b = true := by
            cases hbb : b with
            | true => rfl
            | false => exact absurd (bI_0.mpr hbb) h
          have hadd : addM M z = ((k : Int), M) := by
            unfold addM
            rw [if_pos hf, hN0, hfn, fnd, ← hb, hb1]
            rfl
          refine ⟨tb, fun i => zl (if i < 9 then lst z 9 i else z i), ?_, ?_, ?_⟩
          · rw [hadd]; rfl
          · rw [hadd]; exact hM
          · rw [hadd, hN0]
      have inner : ∀ d2 i, d2 + i = 9 → X 30 [some (.ref 0), some (.int (nI k)), some (.int (bI (alB (fun i => decide (M.2 k i = lrow z 9 i)) i))), some (.int (nI i))] [] (GR n (nI N) ng ns ngr pp ab be so ro tb gv sd gr row (fun i => zl (if i < 9 then lst z 9 i else z i)) one two) := by
        intro d2
        induction d2 with
        | zero =>
          intro i hi
          have hi : i = 9 := by omega
          subst hi
          refine hX.run (oc := []) kX11_map_ok ftX11_ok ctX11_ok xnoc [74] [] [] 80 ?_
          refine ⟨fun _ => ?_, fun h => absurd (nI_le (Nat.le_refl 9) (by omega)) h⟩
          exact hX.less (behind _ rfl) ⟨rfl, rfl, rfl, trivial⟩
        | succ d2 ih2 =>
          intro i hi
          have hih := ih2 (i + 1) (by omega)
          rw [← nI_1, alB] at hih
          refine hX.run (oc := []) kX11_map_ok ftX11_ok ctX11_ok xnoc [30] [] [50, 57] 80 ?_
          refine ⟨fun h => absurd h (nI_ge (a := i) (b := 9) (by omega) (by omega)), fun _ => ?_⟩
          refine ⟨fun h => ?_, fun h => ?_⟩
          · rw [bI_0.mp h, Bool.false_and] at hih
            exact hih
          · have hb1 : alB (fun i => decide (M.2 k i = lrow z 9 i)) i = true := by
              cases hbb : alB (fun i => decide (M.2 k i = lrow z 9 i)) i with
              | true => rfl
              | false => exact absurd (bI_0.mpr hbb) h
            rw [hb1, Bool.true_and] at hih
            obtain ⟨r1, r2⟩ := htb k i (by omega) (by omega)
            have r3 := fit_le hf i (by omega)
            refine ⟨9 * k + i, ixT_nI k i, by omega, by omega, ?_⟩
            refine ⟨i, rfl, by omega, by omega, ?_⟩
            have ev : (tb (9 * k + i)).toInt64 = zl (M.2 k i) := by rw [r1, zl_i (by omega)]
            have ew : zl (if i < 9 then lst z 9 i else z i) = zl (lst z 9 i) := by rw [if_pos (by omega)]
            refine ⟨fun h => ?_, fun h => ?_⟩
            · have h1 : (tb (9 * k + i)).toInt64 = zl (if i < 9 then lst z 9 i else z i) := lgc_eq.mp h
              rw [ev, ew, zl_eq ⟨by omega, by omega⟩ ⟨by omega, by omega⟩] at h1
              rw [hlr i (by omega), decide_eq_true h1] at hih
              exact hih
            · have h1 : ¬ (tb (9 * k + i)).toInt64 = zl (if i < 9 then lst z 9 i else z i) := fun q => h (lgc_eq.mpr q)
              rw [ev, ew, zl_eq ⟨by omega, by omega⟩ ⟨by omega, by omega⟩] at h1
              rw [hlr i (by omega), decide_eq_false h1] at hih
              exact hih
      refine hX.run (oc := []) kX11_map_ok ftX11_ok ctX11_ok xnoc [30] [] [] 80 ?_
      refine ⟨fun h => absurd h (nI_ge (by omega) (by omega)), fun _ => ?_⟩
      exact inner 9 0 (by omega)
  refine hX.run (oc := []) kX11_map_ok ftX11_ok ctX11_ok xnoc [] [] [] 80 ?_
  refine hX.callV [8, 0] [] (c_least l 9 9 (by omega) (by omega) z hz hg) yX11_least_ok lkX11_58 ivX11_least slX11_least ⟨rfl, rfl, by decide, by decide⟩ (kX11_map_ok.at 7 rfl) rfl rfl (by decide) rfl rfl rfl ⟨rfl, trivial⟩ rfl (fun _ _ q => by rw [q.2]; rfl) (fun r G1 q => ?_)
  obtain ⟨rfl, rfl⟩ := q
  refine hX.run (oc := []) kX11_map_ok ftX11_ok ctX11_ok xnoc [18] [] [] 80 ?_
  refine ⟨fun h => ?_, fun h => ?_⟩
  · have hf : fit z 9 9 = false := bI_0.mp h
    have hadd : addM M z = (-4, M) := by
      unfold addM
      rw [hf]; rfl
    refine ⟨tb, fun i => zl (if i < 9 then lst z 9 i else z i), ?_, ?_, ?_⟩
    · rw [hadd]; rfl
    · rw [hadd]; exact hM
    · rw [hadd, hN0]; rfl
  · have hf : fit z 9 9 = true := by
      cases hbb : fit z 9 9 with
      | true => rfl
      | false => exact absurd (bI_0.mpr hbb) h
    exact outer hf N 0 (by omega) rfl
def fndP (P : SM) (z : Nat → Int) : Int := match fnd (hitM P.2 z) P.1 0 with
  | some k => (k : Int)
  | none => -3
set_option maxHeartbeats 4000000 in
set_option maxRecDepth 100000 in
/-- find(): the number of the element that stands in 'table' -/
theorem c_find (l : Launch) (n nm ng ns : Int32) (pp ab be : Int64) (so ro tb gv sd gr : Nat → Int32) (row one two : Nat → Int64) (P : SM) (z : Nat → Int) (hP : RT 48 P gr) (hz : ∀ i, i < 9 → -500 ≤ z i ∧ z i ≤ 500) :
    xM l yX11_find cX11_find 4 (some .int) rX11_find [.ref 0] (GR n nm ng ns (nI P.1) pp ab be so ro tb gv sd gr row (fun i => zl (z i)) one two) (fun r G => r = some (.int (zi (fndP P z))) ∧ G = GR n nm ng ns (nI P.1) pp ab be so ro tb gv sd gr row (fun i => zl (z i)) one two) := by
  refine xM.of (by decide) (Nat.le_of_ble_eq_true rfl) (fun X hX => ?_)
  obtain ⟨hN, htb⟩ := id hP
  have outer : ∀ d k, d + k = P.1 → fnd (hitM P.2 z) P.1 0 = fnd (hitM P.2 z) d k → X 2 [some (.ref 0), some (.int (nI k)), none, none] [] (GR n nm ng ns (nI P.1) pp ab be so ro tb gv sd gr row (fun i => zl (z i)) one two) := by
    intro d
    induction d with
    | zero =>
      intro k hk hfn
      have hk : k = P.1 := by omega
      subst hk
      have hno : fnd (hitM P.2 z) P.1 0 = none := by rw [hfn]; rfl
      refine hX.run (oc := []) kX11_find_ok ftX11_ok ctX11_ok xnoc [] [] [] 80 ?_
      refine ⟨fun _ => ?_, fun h => absurd (nI_le (Nat.le_refl _) (by omega)) h⟩
      have e : fndP P z = -3 := by unfold fndP; rw [hno]
      rw [e]
      exact ⟨rfl, rfl⟩
    | succ d ih =>
      intro k hk hfn
      have behind : ∀ b, b = hitM P.2 z k → X 58 [some (.ref 0), some (.int (nI k)), some (.int (bI b)), none] [] (GR n nm ng ns (nI P.1) pp ab be so ro tb gv sd gr row (fun i => zl (z i)) one two) := by
        intro b hb
        refine hX.run (oc := []) kX11_find_ok ftX11_ok ctX11_ok xnoc [2] [] [] 80 ?_
        refine ⟨fun h => ?_, fun h => ?_⟩
        · have hb0 := bI_0.mp h
          have hih := ih (k + 1) (by omega) (by rw [hfn]; rw [fnd, ← hb, hb0]; rfl)
          rw [← nI_1] at hih
          exact hX.less hih ⟨rfl, rfl, trivial⟩
        · have hb1 : b = true := by
            cases hbb : b with
            | true => rfl
            | false => exact absurd (bI_0.mpr hbb) h
          have e : fndP P z = (k : Int) := by
            unfold fndP
            rw [hfn, fnd, ← hb, hb1]
            rfl
          rw [e, zi_nI]
          exact ⟨rfl, rfl⟩
      have inner : ∀ d2 i, d2 + i = 9 → X 14 [some (.ref 0), some (.int (nI k)), some (.int (bI (alB (fun i => decide (P.2 k i = z i)) i))), some (.int (nI i))] [] (GR n nm ng ns (nI P.1) pp ab be so ro tb gv sd gr row (fun i => zl (z i)) one two) := by
        intro d2
        induction d2 with
        | zero =>
          intro i hi
          have hi : i = 9 := by omega
          subst hi
          refine hX.run (oc := []) kX11_find_ok ftX11_ok ctX11_ok xnoc [58] [] [] 80 ?_
          refine ⟨fun _ => ?_, fun h => absurd (nI_le (Nat.le_refl 9) (by omega)) h⟩
          exact hX.less (behind _ rfl) ⟨rfl, rfl, rfl, trivial⟩
        | succ d2 ih2 =>
          intro i hi
          have hih := ih2 (i + 1) (by omega)
          rw [← nI_1, alB] at hih
          refine hX.run (oc := []) kX11_find_ok ftX11_ok ctX11_ok xnoc [14] [] [34, 41] 80 ?_
          refine ⟨fun h => absurd h (nI_ge (a := i) (b := 9) (by omega) (by omega)), fun _ => ?_⟩
          refine ⟨fun h => ?_, fun h => ?_⟩
          · rw [bI_0.mp h, Bool.false_and] at hih
            exact hih
          · have hb1 : alB (fun i => decide (P.2 k i = z i)) i = true := by
              cases hbb : alB (fun i => decide (P.2 k i = z i)) i with
              | true => rfl
              | false => exact absurd (bI_0.mpr hbb) h
            rw [hb1, Bool.true_and] at hih
            obtain ⟨r1, r2⟩ := htb k i (by omega) (by omega)
            have r3 := hz i (by omega)
            refine ⟨9 * k + i, ixT_nI k i, by omega, by omega, ?_⟩
            refine ⟨i, rfl, by omega, by omega, ?_⟩
            have ev : (gr (9 * k + i)).toInt64 = zl (P.2 k i) := by rw [r1, zl_i (by omega)]
            refine ⟨fun h => ?_, fun h => ?_⟩
            · have h1 : (gr (9 * k + i)).toInt64 = zl (z i) := lgc_eq.mp h
              rw [ev, zl_eq ⟨by omega, by omega⟩ ⟨by omega, by omega⟩] at h1
              rw [decide_eq_true h1] at hih
              exact hih
            · have h1 : ¬ (gr (9 * k + i)).toInt64 = zl (z i) := fun q => h (lgc_eq.mpr q)
              rw [ev, zl_eq ⟨by omega, by omega⟩ ⟨by omega, by omega⟩] at h1
              rw [decide_eq_false h1] at hih
              exact hih
      refine hX.run (oc := []) kX11_find_ok ftX11_ok ctX11_ok xnoc [14] [] [] 80 ?_
      refine ⟨fun h => absurd h (nI_ge (by omega) (by omega)), fun _ => ?_⟩
      exact inner 9 0 (by omega)
  refine hX.run (oc := []) kX11_find_ok ftX11_ok ctX11_ok xnoc [2] [] [] 80 ?_
  exact outer P.1 0 (by omega) rfl
