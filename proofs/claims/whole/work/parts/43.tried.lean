def takB (S : SO) (V : SV) (T : Nat → Int) (i j : Nat) : Bool := decide (pimg T (gq S V i) 0 * gq S V j 1 = pimg T (gq S V i) 1 * gq S V j 0 ∧ pimg T (gq S V i) 1 * gq S V j 2 = pimg T (gq S V i) 2 * gq S V j 1 ∧ pimg T (gq S V i) 0 * gq S V j 2 = pimg T (gq S V i) 2 * gq S V j 0)
theorem pimg_bd {T r : Nat → Int} (hT : ∀ i, i < 9 → ab (T i) 500) (hr : ∀ i, i < 3 → ab (r i) 500) (i : Nat) (hi : i < 3) : ab (pimg T r i) 750000 :=
  ab_le (ab_add (ab_add (ab_mul (hT (3 * i) (by omega)) (hr 0 (by omega))) (ab_mul (hT (3 * i + 1) (by omega)) (hr 1 (by omega)))) (ab_mul (hT (3 * i + 2) (by omega)) (hr 2 (by omega)))) (by decide)
set_option maxHeartbeats 4000000 in
set_option maxRecDepth 100000 in
theorem c_takes (l : Launch) (nm ns ngr : Int32) (pp av be : Int64) (so ro tb gv sd gr : Nat → Int32) (row one two : Nat → Int64) (S : SO) (V : SV) (hS : RO S so ro) (hV : RV 8 S.1 V gv) (T : Nat → Int) (hT : ∀ i, i < 9 → ab (T i) 500) (i j : Nat) (hi : i < V.1) (hj : j < V.1) : xM l yX11_takes cX11_takes 5 (some .boolean) rX11_takes [.ref 0, .int (nI i), .int (nI j)] (GR (nI S.1) nm (nI V.1) ns ngr pp av be so ro tb gv sd gr row (fun i => zl (T i)) one two) (fun r G => r = some (.int (bI (takB S V T i j))) ∧ ∃ row', G = GR (nI S.1) nm (nI V.1) ns ngr pp av be so ro tb gv sd gr row' (fun i => zl (T i)) one two) := by
  refine xM.of (by decide) (Nat.le_of_ble_eq_true rfl) (fun X hX => ?_)
  have hoc := xoc1 (oAtS_ok hX (by decide) hS) xnoc
  have hV8 := hV.1
  obtain ⟨hgi, hli⟩ := hV.2 i hi
  obtain ⟨hgj, hlj⟩ := hV.2 j hj
  have hqi : ∀ t, t < 3 → ab (gq S V i t) 500 := fun t ht => gq_bd hS hV hi ht
  have hqj : ∀ t, t < 3 → ab (gq S V j t) 500 := fun t ht => gq_bd hS hV hj ht
  have jp : ∀ a b, a < 3 → b < 3 → jr (pimg T (gq S V i) a * gq S V j b) := fun a b ha hb => ab_jr (ab_mul (pimg_bd hT hqi a ha) (hqj b hb)) (by decide)
  refine hX.run (oc := [(156, oAtS S ro)]) kX11_takes_ok ftX11_ok ctX11_ok hoc [98] [13] [5, 37, 60, 84] 300 ?_
  refine ⟨j, rfl, by omega, by omega, ?_⟩
  refine ⟨i, rfl, by omega, by omega, ?_⟩
  refine ⟨rfl, V.2 i, hgi, ⟨hli, wid3 _ _ (by decide)⟩, ?_⟩
  refine ⟨i, rfl, by omega, by omega, ?_⟩
  refine ⟨rfl, V.2 i, hgi, ⟨hli, wid3 _ _ (by decide)⟩, ?_⟩
  refine ⟨i, rfl, by omega, by omega, ?_⟩
  refine ⟨rfl, V.2 i, hgi, ⟨hli, wid3 _ _ (by decide)⟩, ?_⟩
  refine ⟨i, rfl, by omega, by omega, ?_⟩
  refine ⟨rfl, V.2 i, hgi, ⟨hli, wid3 _ _ (by decide)⟩, ?_⟩
  refine ⟨i, rfl, by omega, by omega, ?_⟩
  refine ⟨rfl, V.2 i, hgi, ⟨hli, wid3 _ _ (by decide)⟩, ?_⟩
  refine ⟨i, rfl, by omega, by omega, ?_⟩
  refine ⟨rfl, V.2 i, hgi, ⟨hli, wid3 _ _ (by decide)⟩, ?_⟩
  refine ⟨i, rfl, by omega, by omega, ?_⟩
  refine ⟨rfl, V.2 i, hgi, ⟨hli, wid3 _ _ (by decide)⟩, ?_⟩
  refine ⟨i, rfl, by omega, by omega, ?_⟩
  refine ⟨rfl, V.2 i, hgi, ⟨hli, wid3 _ _ (by decide)⟩, ?_⟩
  refine ⟨i, rfl, by omega, by omega, ?_⟩
  refine ⟨rfl, V.2 i, hgi, ⟨hli, wid3 _ _ (by decide)⟩, ?_⟩
  refine hX.alike (G2 := GR (nI S.1) nm (nI V.1) ns ngr pp av be so ro tb gv sd gr (fun t => zl (if t < 3 then pimg T (gq S V i) t else (row t).toInt)) (fun i => zl (T i)) one two) ?_ ⟨xsame_rf _, xsame_rf _, xsame_rf _, xsame_rf _, xsame_rf _, xsame_rf _, xsame_rf _, ⟨rfl, fun t ht => ?_⟩, xsame_rf _, xsame_rf _, xsame_rf _, trivial⟩
  rotate_left
  · unfold vp_updL
    try dsimp only
    simp only [zl_mul, zl_add]
    by_cases h2 : t = 2
    · subst h2; rfl
    by_cases h1 : t = 1
    · subst h1; rfl
    by_cases h0 : t = 0
    · subst h0; rfl
    rw [if_neg h2, if_neg h1, if_neg h0, if_neg (by omega)]
    exact (zl_of _).symm
  refine hX.run (oc := [(156, oAtS S ro)]) kX11_takes_ok ftX11_ok ctX11_ok hoc [] [] [] 80 ?_
  refine ⟨rfl, V.2 j, hgj, ⟨hlj, wid3 _ _ (by decide)⟩, ?_⟩
  refine ⟨rfl, V.2 j, hgj, ⟨hlj, wid3 _ _ (by decide)⟩, ?_⟩
  refine ⟨fun h => ?_, fun h => ?_⟩
  rotate_left
  · have g : ¬ pimg T (gq S V i) 0 * gq S V j 1 = pimg T (gq S V i) 1 * gq S V j 0 := lcn h (zl_mul _ _) (zl_mul _ _)
    have e : takB S V T i j = false := by unfold takB; exact decide_eq_false (fun q => g q.1)
    rw [e]
    exact ⟨rfl, rfl, _, rfl⟩
  have g0 : pimg T (gq S V i) 0 * gq S V j 1 = pimg T (gq S V i) 1 * gq S V j 0 := lce h (zl_mul _ _) (zl_mul _ _) (jp 0 1 (by omega) (by omega)) (jp 1 0 (by omega) (by omega))
  refine ⟨rfl, V.2 j, hgj, ⟨hlj, wid3 _ _ (by decide)⟩, ?_⟩
  refine ⟨rfl, V.2 j, hgj, ⟨hlj, wid3 _ _ (by decide)⟩, ?_⟩
  refine ⟨fun h => ?_, fun h => ?_⟩
  rotate_left
  · have g : ¬ pimg T (gq S V i) 1 * gq S V j 2 = pimg T (gq S V i) 2 * gq S V j 1 := lcn h (zl_mul _ _) (zl_mul _ _)
    have e : takB S V T i j = false := by unfold takB; exact decide_eq_false (fun q => g q.2.1)
    rw [e]
    exact ⟨rfl, rfl, _, rfl⟩
  have g1 : pimg T (gq S V i) 1 * gq S V j 2 = pimg T (gq S V i) 2 * gq S V j 1 := lce h (zl_mul _ _) (zl_mul _ _) (jp 1 2 (by omega) (by omega)) (jp 2 1 (by omega) (by omega))
  refine ⟨rfl, V.2 j, hgj, ⟨hlj, wid3 _ _ (by decide)⟩, ?_⟩
  refine ⟨rfl, V.2 j, hgj, ⟨hlj, wid3 _ _ (by decide)⟩, ?_⟩
  refine ⟨fun h => ?_, fun h => ?_⟩
  rotate_left
  · have g : ¬ pimg T (gq S V i) 0 * gq S V j 2 = pimg T (gq S V i) 2 * gq S V j 0 := lcn h (zl_mul _ _) (zl_mul _ _)
    have e : takB S V T i j = false := by unfold takB; exact decide_eq_false (fun q => g q.2.2)
    rw [e]
    exact ⟨rfl, rfl, _, rfl⟩
  have g2 : pimg T (gq S V i) 0 * gq S V j 2 = pimg T (gq S V i) 2 * gq S V j 0 := lce h (zl_mul _ _) (zl_mul _ _) (jp 0 2 (by omega) (by omega)) (jp 2 0 (by omega) (by omega))
  have e : takB S V T i j = true := by unfold takB; exact decide_eq_true ⟨g0, g1, g2⟩
  rw [e]
  exact ⟨rfl, rfl, _, rfl⟩
def triB (S : SO) (V : SV) (T : Nat → Int) (k n : Nat) : Bool := (decide (¬ det9 T = 0) && alB (fun i => takB S V T i (n + i)) n) && (if k = 5 then decide (takB S V T 0 2 = true ∧ takB S V T 1 3 = true ∧ T 0 = T 4 ∧ T 1 = - T 3 ∧ T 6 = 0 ∧ T 7 = 0) else decide (k = 7 ∨ (T 6 = 0 ∧ T 7 = 0)))
set_option maxHeartbeats 4000000 in
set_option maxRecDepth 100000 in
theorem c_isTried (l : Launch) (nm ns ngr : Int32) (pp av be : Int64) (so ro tb gv sd gr : Nat → Int32) (row one two : Nat → Int64) (S : SO) (V : SV) (hS : RO S so ro) (hV : RV 8 S.1 V gv) (T : Nat → Int) (hT : ∀ i, i < 9 → ab (T i) 500) (k n : Nat) (hk : k < 9) (hn : n < 9) (hV2 : n + n ≤ V.1) (h54 : k = 5 → 4 ≤ V.1) : xM l yX11_isTried cX11_isTried 5 (some .boolean) rX11_isTried [.ref 0, .int (nI k), .int (nI n)] (GR (nI S.1) nm (nI V.1) ns ngr pp av be so ro tb gv sd gr row (fun i => zl (T i)) one two) (fun r G => r = some (.int (bI (triB S V T k n))) ∧ ∃ row', G = GR (nI S.1) nm (nI V.1) ns ngr pp av be so ro tb gv sd gr row' (fun i => zl (T i)) one two) := by
  refine xM.of (by decide) (Nat.le_of_ble_eq_true rfl) (fun X hX => ?_)
  have hV8 := hV.1
  have j0 : jr 0 := ⟨by omega, by omega⟩
  have jT : ∀ i, i < 9 → jr (T i) := fun i hi => ab_jr (hT i hi) (by decide)
  have jn : jr (- T 3) := by have := hT 3 (by omega); exact ⟨by have := this.2; omega, by have := this.1; omega⟩
  have jd : jr (det9 T) := ab_jr (det9_bd (fun i hi => ab_le (hT i hi) (by decide))) (by decide)
  have no : ∀ row : Nat → Int64, triB S V T k n = false → narrow .boolean (.int (Int32.ofInt 0)) = .int (Int32.ofInt 0) ∧ some (Value.int (Int32.ofInt 0)) = some (.int (bI (triB S V T k n))) ∧ ∃ row', (GR (nI S.1) nm (nI V.1) ns ngr pp av be so ro tb gv sd gr row (fun i => zl (T i)) one two) = GR (nI S.1) nm (nI V.1) ns ngr pp av be so ro tb gv sd gr row' (fun i => zl (T i)) one two := by
    intro row h
    rw [h]
    exact ⟨rfl, rfl, _, rfl⟩
  have yes : ∀ row : Nat → Int64, triB S V T k n = true → narrow .boolean (.int (Int32.ofInt 1)) = .int (Int32.ofInt 1) ∧ some (Value.int (Int32.ofInt 1)) = some (.int (bI (triB S V T k n))) ∧ ∃ row', (GR (nI S.1) nm (nI V.1) ns ngr pp av be so ro tb gv sd gr row (fun i => zl (T i)) one two) = GR (nI S.1) nm (nI V.1) ns ngr pp av be so ro tb gv sd gr row' (fun i => zl (T i)) one two := by
    intro row h
    rw [h]
    exact ⟨rfl, rfl, _, rfl⟩
  have no5 : k = 5 → ¬ (takB S V T 0 2 = true ∧ takB S V T 1 3 = true ∧ T 0 = T 4 ∧ T 1 = - T 3 ∧ T 6 = 0 ∧ T 7 = 0) → triB S V T k n = false := fun hk5 hn => by
    unfold triB
    rw [if_pos hk5, decide_eq_false hn, Bool.and_false]
  have no6 : ¬ k = 5 → ¬ (k = 7 ∨ (T 6 = 0 ∧ T 7 = 0)) → triB S V T k n = false := fun hk5 hn => by
    unfold triB
    rw [if_neg hk5, decide_eq_false hn, Bool.and_false]
  have fin : ∀ row : Nat → Int64, X 56 [some (.ref 0), some (.int (nI k)), some (.int (nI n)), some (.int (bI (decide (¬ det9 T = 0) && alB (fun i => takB S V T i (n + i)) n))), none] [] (GR (nI S.1) nm (nI V.1) ns ngr pp av be so ro tb gv sd gr row (fun i => zl (T i)) one two) := by
    intro row
    by_cases hb : (decide (¬ det9 T = 0) && alB (fun i => takB S V T i (n + i)) n) = true
    rotate_left
    · have hb0 : (decide (¬ det9 T = 0) && alB (fun i => takB S V T i (n + i)) n) = false := by
        cases hh : (decide (¬ det9 T = 0) && alB (fun i => takB S V T i (n + i)) n) with
        | true => exact absurd hh hb
        | false => rfl
      rw [hb0]
      refine hX.run (oc := []) kX11_isTried_ok ftX11_ok ctX11_ok xnoc [] [62, 147] [] 60 ?_
      refine ⟨fun _ => ?_, fun _ => ?_⟩
      · exact no _ (by unfold triB; rw [hb0]; rfl)
      · exact no _ (by unfold triB; rw [hb0]; rfl)
    rw [hb]
    refine hX.run (oc := []) kX11_isTried_ok ftX11_ok ctX11_ok xnoc [] [62, 147] [] 60 ?_
    refine ⟨fun h5 => ?_, fun h5 => ?_⟩
    · have hk5 : k = 5 := by
        have h2 : nI k = nI 5 := h5
        rwa [nI_eq (by omega) (by omega)] at h2
      have h4 := h54 hk5
      refine hX.callV0 (rest := []) (c_takes l nm ns ngr pp av be so ro tb gv sd gr row one two S V hS hV T hT (0) (2) (by omega) (by omega)) yX11_takes_ok lkX11_166 ivX11_takes slX11_takes ⟨rfl, rfl, by decide, by decide⟩ (kX11_isTried_ok.at 68 rfl) rfl rfl (by decide) rfl rfl rfl (fun _ _ q => by obtain ⟨-, _, rfl⟩ := q; rfl) (fun r9 G1 q => ?_)
      obtain ⟨rfl, row2, rfl⟩ := q
      refine hX.run (oc := []) kX11_isTried_ok ftX11_ok ctX11_ok xnoc [] [] [] 60 ?_
      refine ⟨fun h => no _ (no5 hk5 (fun q => by rw [bI_0.mp h] at q; exact Bool.noConfusion q.1)), fun h => ?_⟩
      have t1 := bI_t h
      refine hX.callV0 (rest := []) (c_takes l nm ns ngr pp av be so ro tb gv sd gr row2 one two S V hS hV T hT (1) (3) (by omega) (by omega)) yX11_takes_ok lkX11_166 ivX11_takes slX11_takes ⟨rfl, rfl, by decide, by decide⟩ (kX11_isTried_ok.at 77 rfl) rfl rfl (by decide) rfl rfl rfl (fun _ _ q => by obtain ⟨-, _, rfl⟩ := q; rfl) (fun r9 G1 q => ?_)
      obtain ⟨rfl, row3, rfl⟩ := q
      refine hX.run (oc := []) kX11_isTried_ok ftX11_ok ctX11_ok xnoc [] [] [] 90 ?_
      refine ⟨fun h => no _ (no5 hk5 (fun q => by rw [bI_0.mp h] at q; exact Bool.noConfusion q.2.1)), fun h => ?_⟩
      have t2 := bI_t h
      refine ⟨fun h => ?_, fun h => no _ (no5 hk5 (fun q => (lcn h rfl rfl : ¬ T 0 = T 4) q.2.2.1))⟩
      have g1 : T 0 = T 4 := lce h rfl rfl (jT 0 (by omega)) (jT 4 (by omega))
      refine ⟨fun h => ?_, fun h => no _ (no5 hk5 (fun q => (lcn h rfl (zl_neg _) : ¬ T 1 = - T 3) q.2.2.2.1))⟩
      have g2 : T 1 = - T 3 := lce h rfl (zl_neg _) (jT 1 (by omega)) jn
      refine ⟨fun h => ?_, fun h => no _ (no5 hk5 (fun q => (lcn h rfl rfl : ¬ T 6 = 0) q.2.2.2.2.1))⟩
      have g3 : T 6 = 0 := lce h rfl rfl (jT 6 (by omega)) j0
      refine ⟨fun h => ?_, fun h => no _ (no5 hk5 (fun q => (lcn h rfl rfl : ¬ T 7 = 0) q.2.2.2.2.2))⟩
      have g4 : T 7 = 0 := lce h rfl rfl (jT 7 (by omega)) j0
      exact yes _ (by unfold triB; rw [if_pos hk5, hb, decide_eq_true ⟨t1, t2, g1, g2, g3, g4⟩]; rfl)
    · have hk5 : ¬ k = 5 := fun e => h5 (by rw [e]; rfl)
      refine ⟨fun h7 => ?_, fun h7 => ?_⟩
      · have hk7 : k = 7 := by
          have h2 : nI k = nI 7 := h7
          rwa [nI_eq (by omega) (by omega)] at h2
        exact yes _ (by unfold triB; rw [if_neg hk5, hb, decide_eq_true (Or.inl hk7)]; rfl)
      · have hk7 : ¬ k = 7 := fun e => h7 (by rw [e]; rfl)
        refine ⟨fun h => ?_, fun h => no _ (no6 hk5 (fun q => q.elim hk7 (fun q => (lcn h rfl rfl : ¬ T 6 = 0) q.1)))⟩
        have g3 : T 6 = 0 := lce h rfl rfl (jT 6 (by omega)) j0
        refine ⟨fun h => ?_, fun h => no _ (no6 hk5 (fun q => q.elim hk7 (fun q => (lcn h rfl rfl : ¬ T 7 = 0) q.2)))⟩
        have g4 : T 7 = 0 := lce h rfl rfl (jT 7 (by omega)) j0
        exact yes _ (by unfold triB; rw [if_neg hk5, hb, decide_eq_true (Or.inr ⟨g3, g4⟩)]; rfl)
  have main : ∀ (d i : Nat) (row : Nat → Int64), d + i = n → X 21 [some (.ref 0), some (.int (nI k)), some (.int (nI n)), some (.int (bI (decide (¬ det9 T = 0) && alB (fun i => takB S V T i (n + i)) i))), some (.int (nI i))] [] (GR (nI S.1) nm (nI V.1) ns ngr pp av be so ro tb gv sd gr row (fun i => zl (T i)) one two) := by
    intro d
    induction d with
    | zero =>
      intro i row hi
      have hi : i = n := by omega
      subst hi
      refine hX.run (oc := []) kX11_isTried_ok ftX11_ok ctX11_ok xnoc [56] [] [] 60 ?_
      refine ⟨fun _ => hX.less (fin row) ⟨rfl, rfl, rfl, rfl, trivial⟩, fun h => absurd (nI_le (Nat.le_refl _) (by omega)) h⟩
    | succ d ih =>
      intro i row hi
      have hih := fun row => ih (i + 1) row (by omega)
      simp only [← nI_1 i, alB, ← Bool.and_assoc] at hih
      refine hX.run (oc := []) kX11_isTried_ok ftX11_ok ctX11_ok xnoc [21] [] [] 60 ?_
      refine ⟨fun h => absurd h (nI_ge (by omega) (by omega)), fun _ => ?_⟩
      refine ⟨fun h => ?_, fun h => ?_⟩
      · have := hih row
        rw [bI_0.mp h, Bool.false_and] at this
        exact this
      · have hb := bI_t h
        simp only [hb, Bool.true_and] at hih
        have hct := c_takes l nm ns ngr pp av be so ro tb gv sd gr row one two S V hS hV T hT i (n + i) (by omega) (by omega)
        rw [← nI_add n i] at hct
        refine hX.callV0 (rest := []) hct yX11_takes_ok lkX11_166 ivX11_takes slX11_takes ⟨rfl, rfl, by decide, by decide⟩ (kX11_isTried_ok.at 38 rfl) rfl rfl (by decide) rfl rfl rfl (fun _ _ q => by obtain ⟨-, _, rfl⟩ := q; rfl) (fun r9 G1 q => ?_)
        obtain ⟨rfl, row2, rfl⟩ := q
        have := hih row2
        refine hX.run (oc := []) kX11_isTried_ok ftX11_ok ctX11_ok xnoc [21] [] [] 60 ?_
        refine ⟨fun h2 => ?_, fun h2 => ?_⟩
        · rw [bI_0.mp h2] at this
          exact this
        · rw [bI_t h2] at this
          exact this
  refine hX.run (oc := []) kX11_isTried_ok ftX11_ok ctX11_ok xnoc [21] [] [] 60 ?_
  refine hX.callS [8] [] (c_det l T) yX11_det_ok lkX11_132 ssX11_det ⟨rfl, rfl, by decide, by decide⟩ (kX11_isTried_ok.at 4 rfl) rfl rfl (by decide) ⟨rfl, trivial⟩ rfl (fun _ _ q => by rw [q.2]) (fun r9 G1 q => ?_)
  obtain ⟨rfl, rfl⟩ := q
  have h0 := main n 0 row (by omega)
  refine hX.run (oc := []) kX11_isTried_ok ftX11_ok ctX11_ok xnoc [21] [] [] 60 ?_
  refine ⟨fun h => ?_, fun h => ?_⟩
  · have g : det9 T = 0 := lce h rfl rfl jd j0
    rw [decide_eq_false (fun q => q g)] at h0
    exact h0
  · have g : ¬ det9 T = 0 := lcn h rfl rfl
    rw [decide_eq_true g] at h0
    exact h0
def inlB (S : SO) (V : SV) (a b c : Nat) : Bool := decide (dt9 (gq S V a) (gq S V b) (gq S V c) = 0)
def mayS (S : SO) (V : SV) (k : Nat) (b : Bool) (h : Nat) : Bool :=
  if k = 5 then b && decide (¬ V.2 h = V.2 (h + 1))
  else if k = 7 then (b && !inlB S V h (h + 1) (h + 2)) && (!inlB S V h (h + 1) (h + 3) && (!inlB S V h (h + 2) (h + 3) && !inlB S V (h + 1) (h + 2) (h + 3)))
  else b && !inlB S V h (h + 1) (h + 2)
def kn (k : Nat) : Nat := if k = 5 then 2 else if k = 6 then 3 else 4
def may1 (S : SO) (V : SV) (k : Nat) : Bool := alB (fun i => decide (k = 7) || !farB S V i) (2 * kn k)
def mayB (S : SO) (V : SV) (k : Nat) : Bool := givB S V (2 * kn k) 0 && mayS S V k (mayS S V k (may1 S V k) 0) (kn k)
set_option maxHeartbeats 4000000 in
set_option maxRecDepth 100000 in
theorem c_mayBe5 (l : Launch) (nm ns ngr : Int32) (pp av be : Int64) (so ro tb gv sd gr : Nat → Int32) (row table one two : Nat → Int64) (S : SO) (V : SV) (hS : RO S so ro) (hV : RV 8 S.1 V gv) : xM l yX11_mayBe cX11_mayBe 5 (some .boolean) rX11_mayBe [.ref 0, .int (nI 5)] (GR (nI S.1) nm (nI V.1) ns ngr pp av be so ro tb gv sd gr row table one two) (fun r G => r = some (.int (bI (mayB S V 5))) ∧ G = GR (nI S.1) nm (nI V.1) ns ngr pp av be so ro tb gv sd gr row table one two) := by
  refine xM.of (by decide) (Nat.le_of_ble_eq_true rfl) (fun X hX => ?_)
  have hV8 := hV.1
  have hS6 := hS.1
  refine hX.run (oc := []) kX11_mayBe_ok ftX11_ok ctX11_ok xnoc [] [2, 12, 44, 54, 86, 91, 171] [] 90 ?_
  refine hX.callV0 (rest := []) (c_areGiven l nm ns ngr pp av be so ro tb gv sd gr row table one two S V hS hV 4 0 (by omega) (by omega)) yX11_areGiven_ok lkX11_111 ivX11_areGiven slX11_areGiven ⟨rfl, rfl, by decide, by decide⟩ (kX11_mayBe_ok.at 26 rfl) rfl rfl (by decide) rfl rfl rfl (fun _ _ q => by rw [q.2]) (fun r9 G1 q => ?_)
  obtain ⟨rfl, rfl⟩ := q
  refine hX.run (oc := []) kX11_mayBe_ok ftX11_ok ctX11_ok xnoc [39] [2, 12, 44, 54, 86, 91, 171] [] 90 ?_
  refine ⟨fun h => ?_, fun h => ?_⟩
  · have e : mayB S V 5 = false := by
      unfold mayB
      rw [show givB S V (2 * kn 5) 0 = false from bI_0.mp h]
      rfl
    rw [e]
    exact ⟨rfl, rfl, rfl⟩
  have hg := bI_t h
  obtain ⟨hVn, hss⟩ := givB_1 hg
  have hv : ∀ i, i < 4 → gv i = nI (V.2 i) ∧ V.2 i < S.1 := fun i hi => hV.2 i (by omega)
  have eM : mayB S V 5 = mayS S V 5 (mayS S V 5 (may1 S V 5) 0) 2 := by
    unfold mayB
    rw [show givB S V (2 * kn 5) 0 = true from hg]
    rfl
  have s2 : ∀ b, b = mayB S V 5 → X 81 [some (.ref 0), some (.int (nI 5)), some (.int (nI 2)), some (.int (bI b)), some (.int (nI 4))] [] (GR (nI S.1) nm (nI V.1) ns ngr pp av be so ro tb gv sd gr row table one two) := by
    rintro _ rfl
    refine hX.run (oc := []) kX11_mayBe_ok ftX11_ok ctX11_ok xnoc [] [2, 12, 44, 54, 86, 91, 171] [] 90 ?_
    exact ⟨bI_nar _, rfl, rfl⟩
  have s1 : ∀ b, mayS S V 5 b 2 = mayB S V 5 → X 81 [some (.ref 0), some (.int (nI 5)), some (.int (nI 2)), some (.int (bI b)), some (.int (nI 2))] [] (GR (nI S.1) nm (nI V.1) ns ngr pp av be so ro tb gv sd gr row table one two) := by
    intro b hb
    have go : ∀ b2, b2 = mayS S V 5 b 2 → X 81 [some (.ref 0), some (.int (nI 5)), some (.int (nI 2)), some (.int (bI b2)), some (.int (nI 4))] [] (GR (nI S.1) nm (nI V.1) ns ngr pp av be so ro tb gv sd gr row table one two) := by
      rintro _ rfl
      exact s2 _ hb
    have em : mayS S V 5 b 2 = (b && decide (¬ V.2 2 = V.2 3)) := rfl
    rw [em] at go
    by_cases hbt : b = true
    rotate_left
    · have hb0 : b = false := by
        cases b with
        | true => exact absurd rfl hbt
        | false => rfl
      subst hb0
      refine hX.run (oc := []) kX11_mayBe_ok ftX11_ok ctX11_ok xnoc [81] [2, 12, 44, 54, 86, 91, 95, 171] [] 90 ?_
      exact go _ rfl
    subst hbt
    refine hX.run (oc := []) kX11_mayBe_ok ftX11_ok ctX11_ok xnoc [81] [2, 12, 44, 54, 86, 91, 95, 171] [] 90 ?_
    refine ⟨fun h => ?_, fun h => ?_⟩
    · have h2 : V.2 2 = V.2 3 := by
        have h3 : nI (V.2 2) = nI (V.2 3) := (hv 2 (by omega)).1.symm.trans (Eq.trans h (hv 3 (by omega)).1)
        have l1 := (hv 2 (by omega)).2
        have l2 := (hv 3 (by omega)).2
        rwa [nI_eq (by omega) (by omega)] at h3
      rw [decide_eq_false (fun q => q h2)] at go
      exact go _ rfl
    · have h2 : ¬ V.2 2 = V.2 3 := by
        intro q
        apply h
        show gv 2 = gv 3
        rw [(hv 2 (by omega)).1, (hv 3 (by omega)).1, q]
      rw [decide_eq_true h2] at go
      exact go _ rfl
  have s0 : ∀ b, mayS S V 5 (mayS S V 5 b 0) 2 = mayB S V 5 → X 81 [some (.ref 0), some (.int (nI 5)), some (.int (nI 2)), some (.int (bI b)), some (.int (nI 0))] [] (GR (nI S.1) nm (nI V.1) ns ngr pp av be so ro tb gv sd gr row table one two) := by
    intro b hb
    have go : ∀ b2, b2 = mayS S V 5 b 0 → X 81 [some (.ref 0), some (.int (nI 5)), some (.int (nI 2)), some (.int (bI b2)), some (.int (nI 2))] [] (GR (nI S.1) nm (nI V.1) ns ngr pp av be so ro tb gv sd gr row table one two) := by
      rintro _ rfl
      exact s1 _ hb
    have em : mayS S V 5 b 0 = (b && decide (¬ V.2 0 = V.2 1)) := rfl
    rw [em] at go
    by_cases hbt : b = true
    rotate_left
    · have hb0 : b = false := by
        cases b with
        | true => exact absurd rfl hbt
        | false => rfl
      subst hb0
      refine hX.run (oc := []) kX11_mayBe_ok ftX11_ok ctX11_ok xnoc [81] [2, 12, 44, 54, 86, 91, 95, 171] [] 90 ?_
      exact go _ rfl
    subst hbt
    refine hX.run (oc := []) kX11_mayBe_ok ftX11_ok ctX11_ok xnoc [81] [2, 12, 44, 54, 86, 91, 95, 171] [] 90 ?_
    refine ⟨fun h => ?_, fun h => ?_⟩
    · have h2 : V.2 0 = V.2 1 := by
        have h3 : nI (V.2 0) = nI (V.2 1) := (hv 0 (by omega)).1.symm.trans (Eq.trans h (hv 1 (by omega)).1)
        have l1 := (hv 0 (by omega)).2
        have l2 := (hv 1 (by omega)).2
        rwa [nI_eq (by omega) (by omega)] at h3
      rw [decide_eq_false (fun q => q h2)] at go
      exact go _ rfl
    · have h2 : ¬ V.2 0 = V.2 1 := by
        intro q
        apply h
        show gv 0 = gv 1
        rw [(hv 0 (by omega)).1, (hv 1 (by omega)).1, q]
      rw [decide_eq_true h2] at go
      exact go _ rfl
  have first : ∀ (d i : Nat), d + i = 4 → X 39 [some (.ref 0), some (.int (nI 5)), some (.int (nI 2)), some (.int (bI (alB (fun i => decide (5 = 7) || !farB S V i) i))), some (.int (nI i))] [] (GR (nI S.1) nm (nI V.1) ns ngr pp av be so ro tb gv sd gr row table one two) := by
    intro d
    induction d with
    | zero =>
      intro i hi
      have hi : i = 4 := by omega
      subst hi
      refine hX.run (oc := []) kX11_mayBe_ok ftX11_ok ctX11_ok xnoc [81] [] [] 90 ?_
      exact ⟨fun _ => s0 _ eM.symm, fun h => absurd (nI_le (Nat.le_refl 4) (by omega)) h⟩
    | succ d ih =>
      intro i hi
      have hih := ih (i + 1) (by omega)
      rw [← nI_1 i, alB] at hih
      refine hX.run (oc := []) kX11_mayBe_ok ftX11_ok ctX11_ok xnoc [39] [54] [] 90 ?_
      refine ⟨fun h => absurd h (nI_ge (a := i) (b := 4) (by omega) (by omega)), fun _ => ?_⟩
      refine ⟨fun h => ?_, fun h => ?_⟩
      · rw [bI_0.mp h, Bool.false_and] at hih
        exact hih
      rw [bI_t h, Bool.true_and] at hih
      have e2 : (decide (5 = 7) || !farB S V i) = !farB S V i := rfl
      rw [e2] at hih
      refine hX.callV0 (rest := []) (c_isFar l nm ns ngr pp av be so ro tb gv sd gr row table one two S V hS hV i (by omega)) yX11_isFar_ok lkX11_114 ivX11_isFar slX11_isFar ⟨rfl, rfl, by decide, by decide⟩ (kX11_mayBe_ok.at 60 rfl) rfl rfl (by decide) rfl rfl rfl (fun _ _ q => by rw [q.2]) (fun r9 G1 q => ?_)
      obtain ⟨rfl, rfl⟩ := q
      refine hX.run (oc := []) kX11_mayBe_ok ftX11_ok ctX11_ok xnoc [39] [] [] 90 ?_
      refine ⟨fun h2 => ?_, fun h2 => ?_⟩
      · rw [bI_0.mp h2] at hih
        exact hih
      · rw [bI_t h2] at hih
        exact hih
  exact first 4 0 (by omega)
set_option maxHeartbeats 4000000 in
set_option maxRecDepth 100000 in
theorem c_mayBe6 (l : Launch) (nm ns ngr : Int32) (pp av be : Int64) (so ro tb gv sd gr : Nat → Int32) (row table one two : Nat → Int64) (S : SO) (V : SV) (hS : RO S so ro) (hV : RV 8 S.1 V gv) : xM l yX11_mayBe cX11_mayBe 5 (some .boolean) rX11_mayBe [.ref 0, .int (nI 6)] (GR (nI S.1) nm (nI V.1) ns ngr pp av be so ro tb gv sd gr row table one two) (fun r G => r = some (.int (bI (mayB S V 6))) ∧ G = GR (nI S.1) nm (nI V.1) ns ngr pp av be so ro tb gv sd gr row table one two) := by
  refine xM.of (by decide) (Nat.le_of_ble_eq_true rfl) (fun X hX => ?_)
  have hV8 := hV.1
  have hS6 := hS.1
  refine hX.run (oc := []) kX11_mayBe_ok ftX11_ok ctX11_ok xnoc [] [2, 12, 44, 54, 86, 91, 171] [] 90 ?_
  refine hX.callV0 (rest := []) (c_areGiven l nm ns ngr pp av be so ro tb gv sd gr row table one two S V hS hV 6 0 (by omega) (by omega)) yX11_areGiven_ok lkX11_111 ivX11_areGiven slX11_areGiven ⟨rfl, rfl, by decide, by decide⟩ (kX11_mayBe_ok.at 26 rfl) rfl rfl (by decide) rfl rfl rfl (fun _ _ q => by rw [q.2]) (fun r9 G1 q => ?_)
  obtain ⟨rfl, rfl⟩ := q
  refine hX.run (oc := []) kX11_mayBe_ok ftX11_ok ctX11_ok xnoc [39] [2, 12, 44, 54, 86, 91, 171] [] 90 ?_
  refine ⟨fun h => ?_, fun h => ?_⟩
  · have e : mayB S V 6 = false := by
      unfold mayB
      rw [show givB S V (2 * kn 6) 0 = false from bI_0.mp h]
      rfl
    rw [e]
    exact ⟨rfl, rfl, rfl⟩
  have hg := bI_t h
  obtain ⟨hVn, hss⟩ := givB_1 hg
  have hv : ∀ i, i < 6 → gv i = nI (V.2 i) ∧ V.2 i < S.1 := fun i hi => hV.2 i (by omega)
  have eM : mayB S V 6 = mayS S V 6 (mayS S V 6 (may1 S V 6) 0) 3 := by
    unfold mayB
    rw [show givB S V (2 * kn 6) 0 = true from hg]
    rfl
  have s2 : ∀ b, b = mayB S V 6 → X 81 [some (.ref 0), some (.int (nI 6)), some (.int (nI 3)), some (.int (bI b)), some (.int (nI 6))] [] (GR (nI S.1) nm (nI V.1) ns ngr pp av be so ro tb gv sd gr row table one two) := by
    rintro _ rfl
    refine hX.run (oc := []) kX11_mayBe_ok ftX11_ok ctX11_ok xnoc [] [2, 12, 44, 54, 86, 91, 171] [] 90 ?_
    exact ⟨bI_nar _, rfl, rfl⟩
  have s1 : ∀ b, mayS S V 6 b 3 = mayB S V 6 → X 81 [some (.ref 0), some (.int (nI 6)), some (.int (nI 3)), some (.int (bI b)), some (.int (nI 3))] [] (GR (nI S.1) nm (nI V.1) ns ngr pp av be so ro tb gv sd gr row table one two) := by
    intro b hb
    have go : ∀ b2, b2 = mayS S V 6 b 3 → X 81 [some (.ref 0), some (.int (nI 6)), some (.int (nI 3)), some (.int (bI b2)), some (.int (nI 6))] [] (GR (nI S.1) nm (nI V.1) ns ngr pp av be so ro tb gv sd gr row table one two) := by
      rintro _ rfl
      exact s2 _ hb
    have em : mayS S V 6 b 3 = (b && !inlB S V 3 4 5) := rfl
    rw [em] at go
    have tail : ∀ b1, b1 = (b && !inlB S V 3 4 5) → X 168 [some (.ref 0), some (.int (nI 6)), some (.int (nI 3)), some (.int (bI b1)), some (.int (nI 3))] [] (GR (nI S.1) nm (nI V.1) ns ngr pp av be so ro tb gv sd gr row table one two) := by
      intro b1 h1
      refine hX.run (oc := []) kX11_mayBe_ok ftX11_ok ctX11_ok xnoc [81] [2, 12, 44, 54, 86, 91, 171] [] 90 ?_
      exact go _ h1
    by_cases hbt : b = true
    rotate_left
    · have hb0 : b = false := by
        cases b with
        | true => exact absurd rfl hbt
        | false => rfl
      subst hb0
      refine hX.run (oc := []) kX11_mayBe_ok ftX11_ok ctX11_ok xnoc [168] [2, 12, 44, 54, 86, 91, 171, 127] [] 90 ?_
      exact tail _ rfl
    subst hbt
    rw [Bool.true_and] at tail
    refine hX.run (oc := []) kX11_mayBe_ok ftX11_ok ctX11_ok xnoc [168] [2, 12, 44, 54, 86, 91, 171, 127] [] 90 ?_
    have hc := c_areInLine l nm (nI V.1) ns ngr pp av be so ro tb gv sd gr row table one two S hS (V.2 3) (V.2 4) (V.2 5) (hv 3 (by omega)).2 (hv 4 (by omega)).2 (hv 5 (by omega)).2
    rw [← (hv 3 (by omega)).1, ← (hv 4 (by omega)).1, ← (hv 5 (by omega)).1] at hc
    refine hX.callV0 (rest := []) hc yX11_areInLine_ok lkX11_99 ivX11_areInLine slX11_areInLine ⟨rfl, rfl, by decide, by decide⟩ (kX11_mayBe_ok.at 156 rfl) rfl rfl (by decide) rfl rfl rfl (fun _ _ q => by rw [q.2]) (fun r9 G1 q => ?_)
    obtain ⟨rfl, rfl⟩ := q
    refine hX.run (oc := []) kX11_mayBe_ok ftX11_ok ctX11_ok xnoc [168] [2, 12, 44, 54, 86, 91, 171] [] 90 ?_
    refine ⟨fun h2 => ?_, fun h2 => ?_⟩
    rotate_left
    · rw [show inlB S V 3 4 5 = true from bI_t h2] at tail
      exact tail _ rfl
    · rw [show inlB S V 3 4 5 = false from bI_0.mp h2] at tail
      exact tail _ rfl
  have s0 : ∀ b, mayS S V 6 (mayS S V 6 b 0) 3 = mayB S V 6 → X 81 [some (.ref 0), some (.int (nI 6)), some (.int (nI 3)), some (.int (bI b)), some (.int (nI 0))] [] (GR (nI S.1) nm (nI V.1) ns ngr pp av be so ro tb gv sd gr row table one two) := by
    intro b hb
    have go : ∀ b2, b2 = mayS S V 6 b 0 → X 81 [some (.ref 0), some (.int (nI 6)), some (.int (nI 3)), some (.int (bI b2)), some (.int (nI 3))] [] (GR (nI S.1) nm (nI V.1) ns ngr pp av be so ro tb gv sd gr row table one two) := by
      rintro _ rfl
      exact s1 _ hb
    have em : mayS S V 6 b 0 = (b && !inlB S V 0 1 2) := rfl
    rw [em] at go
    have tail : ∀ b1, b1 = (b && !inlB S V 0 1 2) → X 168 [some (.ref 0), some (.int (nI 6)), some (.int (nI 3)), some (.int (bI b1)), some (.int (nI 0))] [] (GR (nI S.1) nm (nI V.1) ns ngr pp av be so ro tb gv sd gr row table one two) := by
      intro b1 h1
      refine hX.run (oc := []) kX11_mayBe_ok ftX11_ok ctX11_ok xnoc [81] [2, 12, 44, 54, 86, 91, 171] [] 90 ?_
      exact go _ h1
    by_cases hbt : b = true
    rotate_left
    · have hb0 : b = false := by
        cases b with
        | true => exact absurd rfl hbt
        | false => rfl
      subst hb0
      refine hX.run (oc := []) kX11_mayBe_ok ftX11_ok ctX11_ok xnoc [168] [2, 12, 44, 54, 86, 91, 171, 127] [] 90 ?_
      exact tail _ rfl
    subst hbt
    rw [Bool.true_and] at tail
    refine hX.run (oc := []) kX11_mayBe_ok ftX11_ok ctX11_ok xnoc [168] [2, 12, 44, 54, 86, 91, 171, 127] [] 90 ?_
    have hc := c_areInLine l nm (nI V.1) ns ngr pp av be so ro tb gv sd gr row table one two S hS (V.2 0) (V.2 1) (V.2 2) (hv 0 (by omega)).2 (hv 1 (by omega)).2 (hv 2 (by omega)).2
    rw [← (hv 0 (by omega)).1, ← (hv 1 (by omega)).1, ← (hv 2 (by omega)).1] at hc
    refine hX.callV0 (rest := []) hc yX11_areInLine_ok lkX11_99 ivX11_areInLine slX11_areInLine ⟨rfl, rfl, by decide, by decide⟩ (kX11_mayBe_ok.at 156 rfl) rfl rfl (by decide) rfl rfl rfl (fun _ _ q => by rw [q.2]) (fun r9 G1 q => ?_)
    obtain ⟨rfl, rfl⟩ := q
    refine hX.run (oc := []) kX11_mayBe_ok ftX11_ok ctX11_ok xnoc [168] [2, 12, 44, 54, 86, 91, 171] [] 90 ?_
    refine ⟨fun h2 => ?_, fun h2 => ?_⟩
    rotate_left
    · rw [show inlB S V 0 1 2 = true from bI_t h2] at tail
      exact tail _ rfl
    · rw [show inlB S V 0 1 2 = false from bI_0.mp h2] at tail
      exact tail _ rfl
  have first : ∀ (d i : Nat), d + i = 6 → X 39 [some (.ref 0), some (.int (nI 6)), some (.int (nI 3)), some (.int (bI (alB (fun i => decide (6 = 7) || !farB S V i) i))), some (.int (nI i))] [] (GR (nI S.1) nm (nI V.1) ns ngr pp av be so ro tb gv sd gr row table one two) := by
    intro d
    induction d with
    | zero =>
      intro i hi
      have hi : i = 6 := by omega
      subst hi
      refine hX.run (oc := []) kX11_mayBe_ok ftX11_ok ctX11_ok xnoc [81] [] [] 90 ?_
      exact ⟨fun _ => s0 _ eM.symm, fun h => absurd (nI_le (Nat.le_refl 6) (by omega)) h⟩
    | succ d ih =>
      intro i hi
      have hih := ih (i + 1) (by omega)
      rw [← nI_1 i, alB] at hih
      refine hX.run (oc := []) kX11_mayBe_ok ftX11_ok ctX11_ok xnoc [39] [54] [] 90 ?_
      refine ⟨fun h => absurd h (nI_ge (a := i) (b := 6) (by omega) (by omega)), fun _ => ?_⟩
      refine ⟨fun h => ?_, fun h => ?_⟩
      · rw [bI_0.mp h, Bool.false_and] at hih
        exact hih
      rw [bI_t h, Bool.true_and] at hih
      have e2 : (decide (6 = 7) || !farB S V i) = !farB S V i := rfl
      rw [e2] at hih
      refine hX.callV0 (rest := []) (c_isFar l nm ns ngr pp av be so ro tb gv sd gr row table one two S V hS hV i (by omega)) yX11_isFar_ok lkX11_114 ivX11_isFar slX11_isFar ⟨rfl, rfl, by decide, by decide⟩ (kX11_mayBe_ok.at 60 rfl) rfl rfl (by decide) rfl rfl rfl (fun _ _ q => by rw [q.2]) (fun r9 G1 q => ?_)
      obtain ⟨rfl, rfl⟩ := q
      refine hX.run (oc := []) kX11_mayBe_ok ftX11_ok ctX11_ok xnoc [39] [] [] 90 ?_
      refine ⟨fun h2 => ?_, fun h2 => ?_⟩
      · rw [bI_0.mp h2] at hih
        exact hih
      · rw [bI_t h2] at hih
        exact hih
  exact first 6 0 (by omega)
set_option maxHeartbeats 4000000 in
set_option maxRecDepth 100000 in
theorem c_mayBe7 (l : Launch) (nm ns ngr : Int32) (pp av be : Int64) (so ro tb gv sd gr : Nat → Int32) (row table one two : Nat → Int64) (S : SO) (V : SV) (hS : RO S so ro) (hV : RV 8 S.1 V gv) : xM l yX11_mayBe cX11_mayBe 5 (some .boolean) rX11_mayBe [.ref 0, .int (nI 7)] (GR (nI S.1) nm (nI V.1) ns ngr pp av be so ro tb gv sd gr row table one two) (fun r G => r = some (.int (bI (mayB S V 7))) ∧ G = GR (nI S.1) nm (nI V.1) ns ngr pp av be so ro tb gv sd gr row table one two) := by
  refine xM.of (by decide) (Nat.le_of_ble_eq_true rfl) (fun X hX => ?_)
  have hV8 := hV.1
  have hS6 := hS.1
  refine hX.run (oc := []) kX11_mayBe_ok ftX11_ok ctX11_ok xnoc [] [2, 12, 44, 54, 86, 91, 171] [] 90 ?_
  refine hX.callV0 (rest := []) (c_areGiven l nm ns ngr pp av be so ro tb gv sd gr row table one two S V hS hV 8 0 (by omega) (by omega)) yX11_areGiven_ok lkX11_111 ivX11_areGiven slX11_areGiven ⟨rfl, rfl, by decide, by decide⟩ (kX11_mayBe_ok.at 26 rfl) rfl rfl (by decide) rfl rfl rfl (fun _ _ q => by rw [q.2]) (fun r9 G1 q => ?_)
  obtain ⟨rfl, rfl⟩ := q
  refine hX.run (oc := []) kX11_mayBe_ok ftX11_ok ctX11_ok xnoc [39] [2, 12, 44, 54, 86, 91, 171] [] 90 ?_
  refine ⟨fun h => ?_, fun h => ?_⟩
  · have e : mayB S V 7 = false := by
      unfold mayB
      rw [show givB S V (2 * kn 7) 0 = false from bI_0.mp h]
      rfl
    rw [e]
    exact ⟨rfl, rfl, rfl⟩
  have hg := bI_t h
  obtain ⟨hVn, hss⟩ := givB_1 hg
  have hv : ∀ i, i < 8 → gv i = nI (V.2 i) ∧ V.2 i < S.1 := fun i hi => hV.2 i (by omega)
  have eM : mayB S V 7 = mayS S V 7 (mayS S V 7 (may1 S V 7) 0) 4 := by
    unfold mayB
    rw [show givB S V (2 * kn 7) 0 = true from hg]
    rfl
  have s2 : ∀ b, b = mayB S V 7 → X 81 [some (.ref 0), some (.int (nI 7)), some (.int (nI 4)), some (.int (bI b)), some (.int (nI 8))] [] (GR (nI S.1) nm (nI V.1) ns ngr pp av be so ro tb gv sd gr row table one two) := by
    rintro _ rfl
    refine hX.run (oc := []) kX11_mayBe_ok ftX11_ok ctX11_ok xnoc [] [2, 12, 44, 54, 86, 91, 171] [] 90 ?_
    exact ⟨bI_nar _, rfl, rfl⟩
  have s1 : ∀ b, mayS S V 7 b 4 = mayB S V 7 → X 81 [some (.ref 0), some (.int (nI 7)), some (.int (nI 4)), some (.int (bI b)), some (.int (nI 4))] [] (GR (nI S.1) nm (nI V.1) ns ngr pp av be so ro tb gv sd gr row table one two) := by
    intro b hb
    have go : ∀ b2, b2 = mayS S V 7 b 4 → X 81 [some (.ref 0), some (.int (nI 7)), some (.int (nI 4)), some (.int (bI b2)), some (.int (nI 8))] [] (GR (nI S.1) nm (nI V.1) ns ngr pp av be so ro tb gv sd gr row table one two) := by
      rintro _ rfl
      exact s2 _ hb
    have em : mayS S V 7 b 4 = ((b && !inlB S V 4 5 6) && (!inlB S V 4 5 7 && (!inlB S V 4 6 7 && !inlB S V 5 6 7))) := rfl
    rw [em] at go
    have tail : ∀ b1, b1 = (b && !inlB S V 4 5 6) → X 168 [some (.ref 0), some (.int (nI 7)), some (.int (nI 4)), some (.int (bI b1)), some (.int (nI 4))] [] (GR (nI S.1) nm (nI V.1) ns ngr pp av be so ro tb gv sd gr row table one two) := by
      intro b1 h1
      rw [← h1] at go
      by_cases hbt : b1 = true
      rotate_left
      · have hb0 : b1 = false := by
          cases hb9 : b1 with
          | true => exact absurd hb9 hbt
          | false => rfl
        rw [hb0] at go ⊢
        refine hX.run (oc := []) kX11_mayBe_ok ftX11_ok ctX11_ok xnoc [81] [2, 12, 44, 54, 86, 91, 171, 175] [] 90 ?_
        exact go _ rfl
      rw [hbt, Bool.true_and] at go
      rw [hbt]
      refine hX.run (oc := []) kX11_mayBe_ok ftX11_ok ctX11_ok xnoc [81] [2, 12, 44, 54, 86, 91, 171, 175] [] 90 ?_
      have hc := c_areInLine l nm (nI V.1) ns ngr pp av be so ro tb gv sd gr row table one two S hS (V.2 4) (V.2 5) (V.2 7) (hv 4 (by omega)).2 (hv 5 (by omega)).2 (hv 7 (by omega)).2
      rw [← (hv 4 (by omega)).1, ← (hv 5 (by omega)).1, ← (hv 7 (by omega)).1] at hc
      refine hX.callV0 (rest := []) hc yX11_areInLine_ok lkX11_99 ivX11_areInLine slX11_areInLine ⟨rfl, rfl, by decide, by decide⟩ (kX11_mayBe_ok.at 204 rfl) rfl rfl (by decide) rfl rfl rfl (fun _ _ q => by rw [q.2]) (fun r9 G1 q => ?_)
      obtain ⟨rfl, rfl⟩ := q
      refine hX.run (oc := []) kX11_mayBe_ok ftX11_ok ctX11_ok xnoc [81] [2, 12, 44, 54, 86, 91, 171] [] 90 ?_
      refine ⟨fun h2 => ?_, fun h2 => ?_⟩
      rotate_left
      · rw [show inlB S V 4 5 7 = true from bI_t h2] at go
        exact go false (by simp)
      rw [show inlB S V 4 5 7 = false from bI_0.mp h2] at go
      have hc := c_areInLine l nm (nI V.1) ns ngr pp av be so ro tb gv sd gr row table one two S hS (V.2 4) (V.2 6) (V.2 7) (hv 4 (by omega)).2 (hv 6 (by omega)).2 (hv 7 (by omega)).2
      rw [← (hv 4 (by omega)).1, ← (hv 6 (by omega)).1, ← (hv 7 (by omega)).1] at hc
      refine hX.callV0 (rest := []) hc yX11_areInLine_ok lkX11_99 ivX11_areInLine slX11_areInLine ⟨rfl, rfl, by decide, by decide⟩ (kX11_mayBe_ok.at 236 rfl) rfl rfl (by decide) rfl rfl rfl (fun _ _ q => by rw [q.2]) (fun r9 G1 q => ?_)
      obtain ⟨rfl, rfl⟩ := q
      refine hX.run (oc := []) kX11_mayBe_ok ftX11_ok ctX11_ok xnoc [81] [2, 12, 44, 54, 86, 91, 171] [] 90 ?_
      refine ⟨fun h2 => ?_, fun h2 => ?_⟩
      rotate_left
      · rw [show inlB S V 4 6 7 = true from bI_t h2] at go
        exact go false (by simp)
      rw [show inlB S V 4 6 7 = false from bI_0.mp h2] at go
      have hc := c_areInLine l nm (nI V.1) ns ngr pp av be so ro tb gv sd gr row table one two S hS (V.2 5) (V.2 6) (V.2 7) (hv 5 (by omega)).2 (hv 6 (by omega)).2 (hv 7 (by omega)).2
      rw [← (hv 5 (by omega)).1, ← (hv 6 (by omega)).1, ← (hv 7 (by omega)).1] at hc
      refine hX.callV0 (rest := []) hc yX11_areInLine_ok lkX11_99 ivX11_areInLine slX11_areInLine ⟨rfl, rfl, by decide, by decide⟩ (kX11_mayBe_ok.at 270 rfl) rfl rfl (by decide) rfl rfl rfl (fun _ _ q => by rw [q.2]) (fun r9 G1 q => ?_)
      obtain ⟨rfl, rfl⟩ := q
      refine hX.run (oc := []) kX11_mayBe_ok ftX11_ok ctX11_ok xnoc [81] [2, 12, 44, 54, 86, 91, 171] [] 90 ?_
      refine ⟨fun h2 => ?_, fun h2 => ?_⟩
      rotate_left
      · rw [show inlB S V 5 6 7 = true from bI_t h2] at go
        exact go false (by simp)
      rw [show inlB S V 5 6 7 = false from bI_0.mp h2] at go
      exact go _ rfl
    by_cases hbt : b = true
    rotate_left
    · have hb0 : b = false := by
        cases b with
        | true => exact absurd rfl hbt
        | false => rfl
      subst hb0
      refine hX.run (oc := []) kX11_mayBe_ok ftX11_ok ctX11_ok xnoc [168] [2, 12, 44, 54, 86, 91, 171, 127] [] 90 ?_
      exact tail _ rfl
    subst hbt
    rw [Bool.true_and] at tail
    refine hX.run (oc := []) kX11_mayBe_ok ftX11_ok ctX11_ok xnoc [168] [2, 12, 44, 54, 86, 91, 171, 127] [] 90 ?_
    have hc := c_areInLine l nm (nI V.1) ns ngr pp av be so ro tb gv sd gr row table one two S hS (V.2 4) (V.2 5) (V.2 6) (hv 4 (by omega)).2 (hv 5 (by omega)).2 (hv 6 (by omega)).2
    rw [← (hv 4 (by omega)).1, ← (hv 5 (by omega)).1, ← (hv 6 (by omega)).1] at hc
    refine hX.callV0 (rest := []) hc yX11_areInLine_ok lkX11_99 ivX11_areInLine slX11_areInLine ⟨rfl, rfl, by decide, by decide⟩ (kX11_mayBe_ok.at 156 rfl) rfl rfl (by decide) rfl rfl rfl (fun _ _ q => by rw [q.2]) (fun r9 G1 q => ?_)
    obtain ⟨rfl, rfl⟩ := q
    refine hX.run (oc := []) kX11_mayBe_ok ftX11_ok ctX11_ok xnoc [168] [2, 12, 44, 54, 86, 91, 171] [] 90 ?_
    refine ⟨fun h2 => ?_, fun h2 => ?_⟩
    rotate_left
    · rw [show inlB S V 4 5 6 = true from bI_t h2] at tail
      exact tail _ rfl
    · rw [show inlB S V 4 5 6 = false from bI_0.mp h2] at tail
      exact tail _ rfl
  have s0 : ∀ b, mayS S V 7 (mayS S V 7 b 0) 4 = mayB S V 7 → X 81 [some (.ref 0), some (.int (nI 7)), some (.int (nI 4)), some (.int (bI b)), some (.int (nI 0))] [] (GR (nI S.1) nm (nI V.1) ns ngr pp av be so ro tb gv sd gr row table one two) := by
    intro b hb
    have go : ∀ b2, b2 = mayS S V 7 b 0 → X 81 [some (.ref 0), some (.int (nI 7)), some (.int (nI 4)), some (.int (bI b2)), some (.int (nI 4))] [] (GR (nI S.1) nm (nI V.1) ns ngr pp av be so ro tb gv sd gr row table one two) := by
      rintro _ rfl
      exact s1 _ hb
    have em : mayS S V 7 b 0 = ((b && !inlB S V 0 1 2) && (!inlB S V 0 1 3 && (!inlB S V 0 2 3 && !inlB S V 1 2 3))) := rfl
    rw [em] at go
    have tail : ∀ b1, b1 = (b && !inlB S V 0 1 2) → X 168 [some (.ref 0), some (.int (nI 7)), some (.int (nI 4)), some (.int (bI b1)), some (.int (nI 0))] [] (GR (nI S.1) nm (nI V.1) ns ngr pp av be so ro tb gv sd gr row table one two) := by
      intro b1 h1
      rw [← h1] at go
      by_cases hbt : b1 = true
      rotate_left
      · have hb0 : b1 = false := by
          cases hb9 : b1 with
          | true => exact absurd hb9 hbt
          | false => rfl
        rw [hb0] at go ⊢
        refine hX.run (oc := []) kX11_mayBe_ok ftX11_ok ctX11_ok xnoc [81] [2, 12, 44, 54, 86, 91, 171, 175] [] 90 ?_
        exact go _ rfl
      rw [hbt, Bool.true_and] at go
      rw [hbt]
      refine hX.run (oc := []) kX11_mayBe_ok ftX11_ok ctX11_ok xnoc [81] [2, 12, 44, 54, 86, 91, 171, 175] [] 90 ?_
      have hc := c_areInLine l nm (nI V.1) ns ngr pp av be so ro tb gv sd gr row table one two S hS (V.2 0) (V.2 1) (V.2 3) (hv 0 (by omega)).2 (hv 1 (by omega)).2 (hv 3 (by omega)).2
      rw [← (hv 0 (by omega)).1, ← (hv 1 (by omega)).1, ← (hv 3 (by omega)).1] at hc
      refine hX.callV0 (rest := []) hc yX11_areInLine_ok lkX11_99 ivX11_areInLine slX11_areInLine ⟨rfl, rfl, by decide, by decide⟩ (kX11_mayBe_ok.at 204 rfl) rfl rfl (by decide) rfl rfl rfl (fun _ _ q => by rw [q.2]) (fun r9 G1 q => ?_)
      obtain ⟨rfl, rfl⟩ := q
      refine hX.run (oc := []) kX11_mayBe_ok ftX11_ok ctX11_ok xnoc [81] [2, 12, 44, 54, 86, 91, 171] [] 90 ?_
      refine ⟨fun h2 => ?_, fun h2 => ?_⟩
      rotate_left
      · rw [show inlB S V 0 1 3 = true from bI_t h2] at go
        exact go false (by simp)
      rw [show inlB S V 0 1 3 = false from bI_0.mp h2] at go
      have hc := c_areInLine l nm (nI V.1) ns ngr pp av be so ro tb gv sd gr row table one two S hS (V.2 0) (V.2 2) (V.2 3) (hv 0 (by omega)).2 (hv 2 (by omega)).2 (hv 3 (by omega)).2
      rw [← (hv 0 (by omega)).1, ← (hv 2 (by omega)).1, ← (hv 3 (by omega)).1] at hc
      refine hX.callV0 (rest := []) hc yX11_areInLine_ok lkX11_99 ivX11_areInLine slX11_areInLine ⟨rfl, rfl, by decide, by decide⟩ (kX11_mayBe_ok.at 236 rfl) rfl rfl (by decide) rfl rfl rfl (fun _ _ q => by rw [q.2]) (fun r9 G1 q => ?_)
      obtain ⟨rfl, rfl⟩ := q
      refine hX.run (oc := []) kX11_mayBe_ok ftX11_ok ctX11_ok xnoc [81] [2, 12, 44, 54, 86, 91, 171] [] 90 ?_
      refine ⟨fun h2 => ?_, fun h2 => ?_⟩
      rotate_left
      · rw [show inlB S V 0 2 3 = true from bI_t h2] at go
        exact go false (by simp)
      rw [show inlB S V 0 2 3 = false from bI_0.mp h2] at go
      have hc := c_areInLine l nm (nI V.1) ns ngr pp av be so ro tb gv sd gr row table one two S hS (V.2 1) (V.2 2) (V.2 3) (hv 1 (by omega)).2 (hv 2 (by omega)).2 (hv 3 (by omega)).2
      rw [← (hv 1 (by omega)).1, ← (hv 2 (by omega)).1, ← (hv 3 (by omega)).1] at hc
      refine hX.callV0 (rest := []) hc yX11_areInLine_ok lkX11_99 ivX11_areInLine slX11_areInLine ⟨rfl, rfl, by decide, by decide⟩ (kX11_mayBe_ok.at 270 rfl) rfl rfl (by decide) rfl rfl rfl (fun _ _ q => by rw [q.2]) (fun r9 G1 q => ?_)
      obtain ⟨rfl, rfl⟩ := q
      refine hX.run (oc := []) kX11_mayBe_ok ftX11_ok ctX11_ok xnoc [81] [2, 12, 44, 54, 86, 91, 171] [] 90 ?_
      refine ⟨fun h2 => ?_, fun h2 => ?_⟩
      rotate_left
      · rw [show inlB S V 1 2 3 = true from bI_t h2] at go
        exact go false (by simp)
      rw [show inlB S V 1 2 3 = false from bI_0.mp h2] at go
      exact go _ rfl
    by_cases hbt : b = true
    rotate_left
    · have hb0 : b = false := by
        cases b with
        | true => exact absurd rfl hbt
        | false => rfl
      subst hb0
      refine hX.run (oc := []) kX11_mayBe_ok ftX11_ok ctX11_ok xnoc [168] [2, 12, 44, 54, 86, 91, 171, 127] [] 90 ?_
      exact tail _ rfl
    subst hbt
    rw [Bool.true_and] at tail
    refine hX.run (oc := []) kX11_mayBe_ok ftX11_ok ctX11_ok xnoc [168] [2, 12, 44, 54, 86, 91, 171, 127] [] 90 ?_
    have hc := c_areInLine l nm (nI V.1) ns ngr pp av be so ro tb gv sd gr row table one two S hS (V.2 0) (V.2 1) (V.2 2) (hv 0 (by omega)).2 (hv 1 (by omega)).2 (hv 2 (by omega)).2
    rw [← (hv 0 (by omega)).1, ← (hv 1 (by omega)).1, ← (hv 2 (by omega)).1] at hc
    refine hX.callV0 (rest := []) hc yX11_areInLine_ok lkX11_99 ivX11_areInLine slX11_areInLine ⟨rfl, rfl, by decide, by decide⟩ (kX11_mayBe_ok.at 156 rfl) rfl rfl (by decide) rfl rfl rfl (fun _ _ q => by rw [q.2]) (fun r9 G1 q => ?_)
    obtain ⟨rfl, rfl⟩ := q
    refine hX.run (oc := []) kX11_mayBe_ok ftX11_ok ctX11_ok xnoc [168] [2, 12, 44, 54, 86, 91, 171] [] 90 ?_
    refine ⟨fun h2 => ?_, fun h2 => ?_⟩
    rotate_left
    · rw [show inlB S V 0 1 2 = true from bI_t h2] at tail
      exact tail _ rfl
    · rw [show inlB S V 0 1 2 = false from bI_0.mp h2] at tail
      exact tail _ rfl
  have first : ∀ (d i : Nat), d + i = 8 → X 39 [some (.ref 0), some (.int (nI 7)), some (.int (nI 4)), some (.int (bI (alB (fun i => decide (7 = 7) || !farB S V i) i))), some (.int (nI i))] [] (GR (nI S.1) nm (nI V.1) ns ngr pp av be so ro tb gv sd gr row table one two) := by
    intro d
    induction d with
    | zero =>
      intro i hi
      have hi : i = 8 := by omega
      subst hi
      refine hX.run (oc := []) kX11_mayBe_ok ftX11_ok ctX11_ok xnoc [81] [] [] 90 ?_
      exact ⟨fun _ => s0 _ eM.symm, fun h => absurd (nI_le (Nat.le_refl 8) (by omega)) h⟩
    | succ d ih =>
      intro i hi
      have hih := ih (i + 1) (by omega)
      rw [← nI_1 i, alB] at hih
      refine hX.run (oc := []) kX11_mayBe_ok ftX11_ok ctX11_ok xnoc [39] [54] [] 90 ?_
      refine ⟨fun h => absurd h (nI_ge (a := i) (b := 8) (by omega) (by omega)), fun _ => ?_⟩
      refine ⟨fun h => ?_, fun h => ?_⟩
      · rw [bI_0.mp h, Bool.false_and] at hih
        exact hih
      rw [bI_t h, Bool.true_and] at hih
      exact hih
  exact first 8 0 (by omega)
