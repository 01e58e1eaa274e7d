/-! the row of given objects -/
def gs (S : SO) (V : SV) (i : Nat) : Nat := S.2.1 (V.2 i)
def gq (S : SO) (V : SV) (i : Nat) : Nat → Int := S.2.2 (V.2 i)
def givB (S : SO) (V : SV) (n s : Nat) : Bool := decide (V.1 = n) && alB (fun i => decide (gs S V i = s)) V.1
def farB (S : SO) (V : SV) (i : Nat) : Bool := if gs S V i = 1 then decide (gq S V i 0 = 0 ∧ gq S V i 1 = 0) else decide (gq S V i 2 = 0)
theorem alB_all {P : Nat → Bool} : ∀ {n : Nat}, alB P n = true → ∀ i, i < n → P i = true
  | 0, _, i, hi => by omega
  | n + 1, h, i, hi => by
    unfold alB at h
    simp only [Bool.and_eq_true] at h
    by_cases e : i = n
    · subst e; exact h.2
    · exact alB_all h.1 i (by omega)
theorem givB_1 {S : SO} {V : SV} {n s : Nat} (h : givB S V n s = true) : V.1 = n ∧ ∀ i, i < n → gs S V i = s := by
  unfold givB at h
  simp only [Bool.and_eq_true, decide_eq_true_eq] at h
  refine ⟨h.1, fun i hi => ?_⟩
  have := alB_all h.2 i (by omega)
  simpa using this
theorem gq_bd {S : SO} {V : SV} {so ro gv : Nat → Int32} (hS : RO S so ro) (hV : RV 8 S.1 V gv) {i t : Nat} (hi : i < V.1) (ht : t < 3) : ab (gq S V i t) 500 := hS.bd (hV.2 i hi).2 (wid3 _ t ht)
theorem bI_1 : bI true = 1 := rfl
theorem bI_t {b : Bool} (h : ¬ bI b = 0) : b = true := by
  cases b with
  | true => rfl
  | false => exact absurd rfl h
set_option maxHeartbeats 4000000 in
set_option maxRecDepth 100000 in
theorem c_areGiven (l : Launch) (nm ns ngr : Int32) (pp av be : Int64) (so ro tb gv sd gr : Nat → Int32) (row table one two : Nat → Int64) (S : SO) (V : SV) (hS : RO S so ro) (hV : RV 8 S.1 V gv) (n s : Nat) (hn : n < 100) (hs : s < 100) : xM l yX11_areGiven cX11_areGiven 5 (some .boolean) rX11_areGiven [.ref 0, .int (nI n), .int (nI s)] (GR (nI S.1) nm (nI V.1) ns ngr pp av be so ro tb gv sd gr row table one two) (fun r G => r = some (.int (bI (givB S V n s))) ∧ G = GR (nI S.1) nm (nI V.1) ns ngr pp av be so ro tb gv sd gr row table one two) := by
  refine xM.of (by decide) (Nat.le_of_ble_eq_true rfl) (fun X hX => ?_)
  have hV8 := hV.1
  have hS6 := hS.1
  have main : ∀ d i, d + i = V.1 → X 17 [some (.ref 0), some (.int (nI n)), some (.int (nI s)), some (.int (bI (decide (V.1 = n) && alB (fun i => decide (gs S V i = s)) i))), some (.int (nI i))] [] (GR (nI S.1) nm (nI V.1) ns ngr pp av be so ro tb gv sd gr row table one two) := by
    intro d
    induction d with
    | zero =>
      intro i hi
      have hi : i = V.1 := by omega
      subst hi
      refine hX.run (oc := []) kX11_areGiven_ok ftX11_ok ctX11_ok xnoc [] [] [] 60 ?_
      refine ⟨fun _ => ⟨bI_nar _, rfl, rfl⟩, fun h => absurd (nI_le (Nat.le_refl _) (by omega)) h⟩
    | succ d ih =>
      intro i hi
      have hih := ih (i + 1) (by omega)
      rw [← nI_1, alB, ← Bool.and_assoc] at hih
      obtain ⟨hg, hl⟩ := hV.2 i (by omega)
      refine hX.run (oc := []) kX11_areGiven_ok ftX11_ok ctX11_ok xnoc [17] [] [40, 41] 60 ?_
      refine ⟨fun h => absurd h (nI_ge (by omega) (by omega)), fun _ => ?_⟩
      refine ⟨fun h => ?_, fun h => ?_⟩
      · rw [bI_0.mp h, Bool.false_and] at hih
        exact hih
      · rw [bI_t h, Bool.true_and] at hih
        refine ⟨i, rfl, by omega, by omega, ?_⟩
        refine ⟨V.2 i, hg, by omega, by omega, ?_⟩
        have e := (hS.2.1 _ hl).1
        have hle := (hS.2.1 _ hl).2
        refine ⟨fun h2 => ?_, fun h2 => ?_⟩
        · have h3 : nI (gs S V i) = nI s := e.symm.trans h2
          rw [nI_eq (by show S.2.1 (V.2 i) < _; omega) (by omega)] at h3
          rw [decide_eq_true h3] at hih
          exact hih
        · have h3 : ¬ gs S V i = s := fun q => h2 (e.trans (by show nI (gs S V i) = _; rw [q]))
          rw [decide_eq_false h3] at hih
          exact hih
  refine hX.run (oc := []) kX11_areGiven_ok ftX11_ok ctX11_ok xnoc [17] [] [] 60 ?_
  refine ⟨fun h => ?_, fun h => ?_⟩
  · have h1 : V.1 = n := by
      have h2 : nI V.1 = nI n := h
      rwa [nI_eq (by omega) (by omega)] at h2
    have := main V.1 0 (by omega)
    rw [decide_eq_true h1] at this
    exact this
  · have h1 : ¬ V.1 = n := fun e => h (by rw [e])
    have := main V.1 0 (by omega)
    rw [decide_eq_false h1] at this
    exact this
set_option maxHeartbeats 4000000 in
set_option maxRecDepth 100000 in
theorem c_isFar (l : Launch) (nm ns ngr : Int32) (pp av be : Int64) (so ro tb gv sd gr : Nat → Int32) (row table one two : Nat → Int64) (S : SO) (V : SV) (hS : RO S so ro) (hV : RV 8 S.1 V gv) (i : Nat) (hi : i < V.1) : xM l yX11_isFar cX11_isFar 2 (some .boolean) rX11_isFar [.ref 0, .int (nI i)] (GR (nI S.1) nm (nI V.1) ns ngr pp av be so ro tb gv sd gr row table one two) (fun r G => r = some (.int (bI (farB S V i))) ∧ G = GR (nI S.1) nm (nI V.1) ns ngr pp av be so ro tb gv sd gr row table one two) := by
  refine xM.of (by decide) (Nat.le_of_ble_eq_true rfl) (fun X hX => ?_)
  have hoc := xoc1 (oAtS_ok hX (by decide) hS) xnoc
  have hV8 := hV.1
  have hS6 := hS.1
  obtain ⟨hg, hl⟩ := hV.2 i hi
  have e := (hS.2.1 _ hl).1
  have hle := (hS.2.1 _ hl).2
  have j0 : jr 0 := ⟨by omega, by omega⟩
  have jq : ∀ t, t < 3 → jr (S.2.2 (V.2 i) t) := fun t ht => ab_jr (hS.bd hl (wid3 _ t ht)) (by decide)
  refine hX.run (oc := [(156, oAtS S ro)]) kX11_isFar_ok ftX11_ok ctX11_ok hoc [] [] [9, 10, 21, 37, 61] 60 ?_
  refine ⟨i, rfl, by omega, by omega, ?_⟩
  refine ⟨V.2 i, hg, by omega, by omega, ?_⟩
  refine ⟨fun h => ?_, fun h => ?_⟩
  · have h1 : gs S V i = 1 := by
      have h2 : nI (gs S V i) = nI 1 := e.symm.trans h
      rwa [nI_eq (by show S.2.1 (V.2 i) < _; omega) (by omega)] at h2
    have ef : farB S V i = decide (gq S V i 0 = 0 ∧ gq S V i 1 = 0) := by unfold farB; rw [if_pos h1]
    rw [ef]
    refine ⟨i, rfl, by omega, by omega, ?_⟩
    refine ⟨rfl, V.2 i, (hV.2 i hi).1, ⟨(hV.2 i hi).2, wid3 _ _ (by decide)⟩, ?_⟩
    refine ⟨fun h2 => ?_, fun h2 => ?_⟩
    · have g0 : S.2.2 (V.2 i) 0 = 0 := lce h2 rfl rfl (jq 0 (by omega)) j0
      refine ⟨i, rfl, by omega, by omega, ?_⟩
      refine ⟨rfl, V.2 i, (hV.2 i hi).1, ⟨(hV.2 i hi).2, wid3 _ _ (by decide)⟩, ?_⟩
      refine ⟨fun h3 => ?_, fun h3 => ?_⟩
      · have g1 : S.2.2 (V.2 i) 1 = 0 := lce h3 rfl rfl (jq 1 (by omega)) j0
        rw [decide_eq_true ⟨g0, g1⟩]
        exact ⟨rfl, rfl, rfl⟩
      · have g1 : ¬ S.2.2 (V.2 i) 1 = 0 := lcn h3 rfl rfl
        rw [decide_eq_false (fun q => g1 q.2)]
        exact ⟨rfl, rfl, rfl⟩
    · have g0 : ¬ S.2.2 (V.2 i) 0 = 0 := lcn h2 rfl rfl
      rw [decide_eq_false (fun q => g0 q.1)]
      exact ⟨rfl, rfl, rfl⟩
  · have h1 : ¬ gs S V i = 1 := fun q => h (e.trans (by show nI (gs S V i) = _; rw [q]; rfl))
    have ef : farB S V i = decide (gq S V i 2 = 0) := by unfold farB; rw [if_neg h1]
    rw [ef]
    refine ⟨i, rfl, by omega, by omega, ?_⟩
    refine ⟨rfl, V.2 i, (hV.2 i hi).1, ⟨(hV.2 i hi).2, wid3 _ _ (by decide)⟩, ?_⟩
    refine ⟨fun h2 => ?_, fun h2 => ?_⟩
    · have g0 : S.2.2 (V.2 i) 2 = 0 := lce h2 rfl rfl (jq 2 (by omega)) j0
      rw [decide_eq_true (show gq S V i 2 = 0 from g0)]
      exact ⟨rfl, rfl, rfl⟩
    · have g0 : ¬ S.2.2 (V.2 i) 2 = 0 := lcn h2 rfl rfl
      rw [decide_eq_false (show ¬ gq S V i 2 = 0 from g0)]
      exact ⟨rfl, rfl, rfl⟩
def set9 (f : Nat → Int64) (a b c d e h : Int64) (i : Nat) : Int64 := if i = 0 then a else if i = 1 then b else if i = 2 then c else if i = 3 then d else if i = 4 then e else if i = 5 then h else if i = 6 then zl 0 else if i = 7 then zl 0 else f i
def t9 (a b c d e f g h k : Int) (i : Nat) : Int := if i = 0 then a else if i = 1 then b else if i = 2 then c else if i = 3 then d else if i = 4 then e else if i = 5 then f else if i = 6 then g else if i = 7 then h else k
set_option maxHeartbeats 4000000 in
set_option maxRecDepth 100000 in
theorem c_set (l : Launch) (n nm ng ns ngr : Int32) (pp av be : Int64) (so ro tb gv sd gr : Nat → Int32) (row table one two : Nat → Int64) (a b c d e f : Int64) : xM l yX11_set cX11_set 13 (none : Option FieldType) rX11_set [.ref 0, .long a, .long b, .long c, .long d, .long e, .long f] (GR n nm ng ns ngr pp av be so ro tb gv sd gr row table one two) (fun r G => r = none ∧ G = GR n nm ng ns ngr pp av be so ro tb gv sd gr row (set9 table a b c d e f) one two) := by
  refine xM.of (by decide) (Nat.le_of_ble_eq_true rfl) (fun X hX => ?_)
  refine hX.run (oc := []) kX11_set_ok ftX11_ok ctX11_ok xnoc [62] [] [] 60 ?_
  refine hX.alike (G2 := GR n nm ng ns ngr pp av be so ro tb gv sd gr row (set9 table a b c d e f) one two) ?_ ⟨xsame_rf _, xsame_rf _, xsame_rf _, xsame_rf _, xsame_rf _, xsame_rf _, xsame_rf _, xsame_rf _, ⟨rfl, fun i hi => ?_⟩, xsame_rf _, xsame_rf _, trivial⟩
  · refine hX.run (oc := []) kX11_set_ok ftX11_ok ctX11_ok xnoc [] [] [] 60 ?_
    exact ⟨rfl, rfl⟩
  · unfold vp_updL
    try dsimp only
    rcases (show i = 0 ∨ i = 1 ∨ i = 2 ∨ i = 3 ∨ i = 4 ∨ i = 5 ∨ i = 6 ∨ i = 7 ∨ i = 8 by omega) with rfl | rfl | rfl | rfl | rfl | rfl | rfl | rfl | rfl <;> rfl
def mirT (q : Nat → Int) : Nat → Int := t9 (q 1 * q 1 - q 0 * q 0) (-2 * q 0 * q 1) (-2 * q 0 * q 2) (-2 * q 0 * q 1) (q 0 * q 0 - q 1 * q 1) (-2 * q 1 * q 2) 0 0 (q 0 * q 0 + q 1 * q 1)
def simT (k : Nat) (q : Nat → Int) (u v : Int) : Nat → Int :=
  if k = 0 then t9 (q 2) 0 (q 0) 0 (q 2) (q 1) 0 0 (q 2)
  else if k = 3 then t9 (u * q 2) 0 (q 0 * (v - u)) 0 (u * q 2) (q 1 * (v - u)) 0 0 (v * q 2)
  else t9 ((u * u - v * v) * q 2) (-(2 * u * v) * q 2) (q 0 * (u * u + v * v) - (u * u - v * v) * q 0 + 2 * u * v * q 1) (2 * u * v * q 2) ((u * u - v * v) * q 2) (q 1 * (u * u + v * v) - 2 * u * v * q 0 - (u * u - v * v) * q 1) 0 0 ((u * u + v * v) * q 2)
def simU (k : Nat) (u v : Int) : Bool := if k = 0 then true else if k = 3 then decide (¬ u = 0 ∧ ¬ v = 0) else decide (¬ u * u + v * v = 0)
def gliO (q : Nat → Int) (u v : Int) : Nat → Int := t9 v 0 (-u * q 1) 0 v (u * q 0) 0 0 v
def anyT (S : SO) (V : SV) (i : Nat) : Int := gq S V (i / 3) (i % 3)
def mirB (S : SO) (V : SV) : Bool := givB S V 1 1 && !farB S V 0
def simB (S : SO) (V : SV) (k : Nat) (u v : Int) : Bool := (givB S V 1 0 && !farB S V 0) && simU k u v
def gliB (S : SO) (V : SV) (v : Int) : Bool := mirB S V && decide (¬ v = 0)
def anyB (S : SO) (V : SV) : Bool := givB S V 3 1 && decide (¬ det9 (anyT S V) = 0)
set_option maxHeartbeats 4000000 in
set_option maxRecDepth 100000 in
theorem c_mirror (l : Launch) (nm ns ngr : Int32) (pp av be : Int64) (so ro tb gv sd gr : Nat → Int32) (row table one two : Nat → Int64) (S : SO) (V : SV) (hS : RO S so ro) (hV : RV 8 S.1 V gv) : xM l yX11_mirror cX11_mirror 7 (some .boolean) rX11_mirror [.ref 0] (GR (nI S.1) nm (nI V.1) ns ngr pp av be so ro tb gv sd gr row table one two) (fun r G => ∃ table' one' two', r = some (.int (bI (mirB S V))) ∧ ((mirB S V) = true → ∀ i, i < 9 → table' i = zl (mirT (gq S V 0) i)) ∧ G = GR (nI S.1) nm (nI V.1) ns ngr pp av be so ro tb gv sd gr row table' one' two') := by
  refine xM.of (by decide) (Nat.le_of_ble_eq_true rfl) (fun X hX => ?_)
  have hoc := xoc1 (oAtS_ok hX (by decide) hS) xnoc
  have no : (mirB S V) = false → narrow .boolean (.int (Int32.ofInt 0)) = .int (Int32.ofInt 0) ∧ ∃ table' one' two', some (Value.int (Int32.ofInt 0)) = some (.int (bI (mirB S V))) ∧ ((mirB S V) = true → ∀ i, i < 9 → table' i = zl (mirT (gq S V 0) i)) ∧ (GR (nI S.1) nm (nI V.1) ns ngr pp av be so ro tb gv sd gr row table one two) = GR (nI S.1) nm (nI V.1) ns ngr pp av be so ro tb gv sd gr row table' one' two' := by
    intro h
    rw [h]
    exact ⟨rfl, table, one, two, rfl, fun q => Bool.noConfusion q, rfl⟩
  refine hX.run (oc := [(156, oAtS S ro)]) kX11_mirror_ok ftX11_ok ctX11_ok hoc [] [] [] 60 ?_
  refine hX.callV0 (rest := []) (c_areGiven l nm ns ngr pp av be so ro tb gv sd gr row table one two S V hS hV 1 1 (by omega) (by omega)) yX11_areGiven_ok lkX11_111 ivX11_areGiven slX11_areGiven ⟨rfl, rfl, by decide, by decide⟩ (kX11_mirror_ok.at 3 rfl) rfl rfl (by decide) rfl rfl rfl (fun _ _ q => by rw [q.2]) (fun r9 G1 q => ?_)
  obtain ⟨rfl, rfl⟩ := q
  refine hX.run (oc := [(156, oAtS S ro)]) kX11_mirror_ok ftX11_ok ctX11_ok hoc [] [] [] 60 ?_
  refine ⟨fun h => no (by unfold mirB; rw [bI_0.mp h]; rfl), fun h => ?_⟩
  have hg := bI_t h
  obtain ⟨g1, g2⟩ := givB_1 hg
  refine hX.callV0 (rest := []) (c_isFar l nm ns ngr pp av be so ro tb gv sd gr row table one two S V hS hV 0 (by omega)) yX11_isFar_ok lkX11_114 ivX11_isFar slX11_isFar ⟨rfl, rfl, by decide, by decide⟩ (kX11_mirror_ok.at 11 rfl) rfl rfl (by decide) rfl rfl rfl (fun _ _ q => by rw [q.2]) (fun r9 G1 q => ?_)
  obtain ⟨rfl, rfl⟩ := q
  refine hX.run (oc := [(156, oAtS S ro)]) kX11_mirror_ok ftX11_ok ctX11_ok hoc [] [] [] 60 ?_
  refine ⟨fun h => ?_, fun h => no (by unfold mirB; rw [bI_t h, Bool.and_comm]; rfl)⟩
  have hf := bI_0.mp h
  have hb : mirB S V = true := by unfold mirB; rw [hg, hf]; rfl
  have h0 : 0 < V.1 := by omega
  refine ⟨rfl, V.2 0, (hV.2 0 h0).1, ⟨(hV.2 0 h0).2, wid3 _ _ (by decide)⟩, ?_⟩
  refine ⟨rfl, V.2 0, (hV.2 0 h0).1, ⟨(hV.2 0 h0).2, wid3 _ _ (by decide)⟩, ?_⟩
  refine ⟨rfl, V.2 0, (hV.2 0 h0).1, ⟨(hV.2 0 h0).2, wid3 _ _ (by decide)⟩, ?_⟩
  refine hX.callV0 (rest := []) (c_set l _ _ _ _ _ _ _ _ _ _ _ _ _ _ _ _ _ _ _ _ _ _ _ _) yX11_set_ok lkX11_120 ivX11_set slX11_set ⟨rfl, rfl, by decide, by decide⟩ (kX11_mirror_ok.at 101 rfl) rfl rfl (by decide) rfl rfl rfl (fun _ _ q => by rw [q.2]; rfl) (fun r9 G1 q => ?_)
  obtain ⟨rfl, rfl⟩ := q
  refine hX.run (oc := [(156, oAtS S ro)]) kX11_mirror_ok ftX11_ok ctX11_ok hoc [] [] [] 60 ?_
  refine ⟨rfl, _, one, two, by rw [hb]; rfl, fun _ i hi => ?_, rfl⟩
  unfold vp_updL set9
  try dsimp only
  have e2 : (-2 : Int64) = zl (-2) := rfl
  rcases (show i = 0 ∨ i = 1 ∨ i = 2 ∨ i = 3 ∨ i = 4 ∨ i = 5 ∨ i = 6 ∨ i = 7 ∨ i = 8 by omega) with rfl | rfl | rfl | rfl | rfl | rfl | rfl | rfl | rfl
  · show _ = zl _
    simp only [e2, zl_mul, zl_sub, zl_add]
    rfl
  · show _ = zl _
    simp only [e2, zl_mul, zl_sub, zl_add]
    rfl
  · show _ = zl _
    simp only [e2, zl_mul, zl_sub, zl_add]
    rfl
  · show _ = zl _
    simp only [e2, zl_mul, zl_sub, zl_add]
    rfl
  · show _ = zl _
    simp only [e2, zl_mul, zl_sub, zl_add]
    rfl
  · show _ = zl _
    simp only [e2, zl_mul, zl_sub, zl_add]
    rfl
  · rfl
  · rfl
  · show _ = zl _
    simp only [e2, zl_mul, zl_sub, zl_add]
    rfl

set_option maxHeartbeats 4000000 in
set_option maxRecDepth 100000 in
theorem c_simple (l : Launch) (nm ns ngr : Int32) (pp av be : Int64) (so ro tb gv sd gr : Nat → Int32) (row table one two : Nat → Int64) (S : SO) (V : SV) (hS : RO S so ro) (hV : RV 8 S.1 V gv) (k : Nat) (hk : k < 9) (u v : Int) (hu : ab u 1000) (hv : ab v 1000) : xM l yX11_simple cX11_simple 18 (some .boolean) rX11_simple [.ref 0, .int (nI k), .long (zl u), .long (zl v)] (GR (nI S.1) nm (nI V.1) ns ngr pp av be so ro tb gv sd gr row table one two) (fun r G => ∃ table' one' two', r = some (.int (bI (simB S V k u v))) ∧ ((simB S V k u v) = true → ∀ i, i < 9 → table' i = zl (simT k (gq S V 0) u v i)) ∧ G = GR (nI S.1) nm (nI V.1) ns ngr pp av be so ro tb gv sd gr row table' one' two') := by
  refine xM.of (by decide) (Nat.le_of_ble_eq_true rfl) (fun X hX => ?_)
  have hoc := xoc1 (oAtS_ok hX (by decide) hS) xnoc
  have no : (simB S V k u v) = false → narrow .boolean (.int (Int32.ofInt 0)) = .int (Int32.ofInt 0) ∧ ∃ table' one' two', some (Value.int (Int32.ofInt 0)) = some (.int (bI (simB S V k u v))) ∧ ((simB S V k u v) = true → ∀ i, i < 9 → table' i = zl (simT k (gq S V 0) u v i)) ∧ (GR (nI S.1) nm (nI V.1) ns ngr pp av be so ro tb gv sd gr row table one two) = GR (nI S.1) nm (nI V.1) ns ngr pp av be so ro tb gv sd gr row table' one' two' := by
    intro h
    rw [h]
    exact ⟨rfl, table, one, two, rfl, fun q => Bool.noConfusion q, rfl⟩
  refine hX.run (oc := [(156, oAtS S ro)]) kX11_simple_ok ftX11_ok ctX11_ok hoc [] [] [] 60 ?_
  refine hX.callV0 (rest := []) (c_areGiven l nm ns ngr pp av be so ro tb gv sd gr row table one two S V hS hV 1 0 (by omega) (by omega)) yX11_areGiven_ok lkX11_111 ivX11_areGiven slX11_areGiven ⟨rfl, rfl, by decide, by decide⟩ (kX11_simple_ok.at 3 rfl) rfl rfl (by decide) rfl rfl rfl (fun _ _ q => by rw [q.2]) (fun r9 G1 q => ?_)
  obtain ⟨rfl, rfl⟩ := q
  refine hX.run (oc := [(156, oAtS S ro)]) kX11_simple_ok ftX11_ok ctX11_ok hoc [] [] [] 60 ?_
  refine ⟨fun h => no (by unfold simB; rw [bI_0.mp h]; rfl), fun h => ?_⟩
  have hg := bI_t h
  obtain ⟨g1, g2⟩ := givB_1 hg
  refine hX.callV0 (rest := []) (c_isFar l nm ns ngr pp av be so ro tb gv sd gr row table one two S V hS hV 0 (by omega)) yX11_isFar_ok lkX11_114 ivX11_isFar slX11_isFar ⟨rfl, rfl, by decide, by decide⟩ (kX11_simple_ok.at 11 rfl) rfl rfl (by decide) rfl rfl rfl (fun _ _ q => by rw [q.2]) (fun r9 G1 q => ?_)
  obtain ⟨rfl, rfl⟩ := q
  refine hX.run (oc := [(156, oAtS S ro)]) kX11_simple_ok ftX11_ok ctX11_ok hoc [] [] [] 200 ?_
  refine ⟨fun h => ?_, fun h => no (by unfold simB; rw [bI_t h, Bool.and_comm (givB S V 1 0)]; rfl)⟩
  have hf := bI_0.mp h
  have hb : simB S V k u v = simU k u v := by unfold simB; rw [hg, hf]; rfl
  have h0 : 0 < V.1 := by omega
  have j0 : jr 0 := ⟨by omega, by omega⟩
  have ju : jr u := ab_jr hu (by decide)
  have jv : jr v := ab_jr hv (by decide)
  refine ⟨rfl, V.2 0, (hV.2 0 h0).1, ⟨(hV.2 0 h0).2, wid3 _ _ (by decide)⟩, ?_⟩
  refine ⟨rfl, V.2 0, (hV.2 0 h0).1, ⟨(hV.2 0 h0).2, wid3 _ _ (by decide)⟩, ?_⟩
  refine ⟨rfl, V.2 0, (hV.2 0 h0).1, ⟨(hV.2 0 h0).2, wid3 _ _ (by decide)⟩, ?_⟩
  refine ⟨fun hk0 => ?_, fun hk0 => ?_⟩
  · have k0 : k = 0 := by
      have h2 : nI k = nI 0 := hk0
      rwa [nI_eq (by omega) (by omega)] at h2
    have eb : simU k u v = true := by unfold simU; rw [if_pos k0]
    have et : simT k (gq S V 0) u v = t9 (gq S V 0 2) 0 (gq S V 0 0) 0 (gq S V 0 2) (gq S V 0 1) 0 0 (gq S V 0 2) := by unfold simT; rw [if_pos k0]
    refine hX.callV0 (rest := []) (c_set l _ _ _ _ _ _ _ _ _ _ _ _ _ _ _ _ _ _ _ _ _ _ _ _) yX11_set_ok lkX11_120 ivX11_set slX11_set ⟨rfl, rfl, by decide, by decide⟩ (kX11_simple_ok.at 73 rfl) rfl rfl (by decide) rfl rfl rfl (fun _ _ q => by rw [q.2]; rfl) (fun r9 G1 q => ?_)
    obtain ⟨rfl, rfl⟩ := q
    refine hX.run (oc := [(156, oAtS S ro)]) kX11_simple_ok ftX11_ok ctX11_ok hoc [] [] [] 60 ?_
    refine ⟨rfl, _, one, two, by rw [hb, eb]; rfl, fun _ i hi => ?_, rfl⟩
    rw [et]
    unfold vp_updL set9
    try dsimp only
    rcases (show i = 0 ∨ i = 1 ∨ i = 2 ∨ i = 3 ∨ i = 4 ∨ i = 5 ∨ i = 6 ∨ i = 7 ∨ i = 8 by omega) with rfl | rfl | rfl | rfl | rfl | rfl | rfl | rfl | rfl <;> rfl
  have k0 : ¬ k = 0 := fun q => hk0 (by rw [q]; rfl)
  refine ⟨fun hk3 => ?_, fun hk3 => ?_⟩
  · have k3 : k = 3 := by
      have h2 : nI k = nI 3 := hk3
      rwa [nI_eq (by omega) (by omega)] at h2
    have eb : simU k u v = decide (¬ u = 0 ∧ ¬ v = 0) := by unfold simU; rw [if_neg k0, if_pos k3]
    have et : simT k (gq S V 0) u v = t9 (u * gq S V 0 2) 0 (gq S V 0 0 * (v - u)) 0 (u * gq S V 0 2) (gq S V 0 1 * (v - u)) 0 0 (v * gq S V 0 2) := by unfold simT; rw [if_neg k0, if_pos k3]
    refine hX.callV0 (rest := []) (c_set l _ _ _ _ _ _ _ _ _ _ _ _ _ _ _ _ _ _ _ _ _ _ _ _) yX11_set_ok lkX11_120 ivX11_set slX11_set ⟨rfl, rfl, by decide, by decide⟩ (kX11_simple_ok.at 117 rfl) rfl rfl (by decide) rfl rfl rfl (fun _ _ q => by rw [q.2]; rfl) (fun r9 G1 q => ?_)
    obtain ⟨rfl, rfl⟩ := q
    refine hX.run (oc := [(156, oAtS S ro)]) kX11_simple_ok ftX11_ok ctX11_ok hoc [] [] [] 60 ?_
    have good : ∀ table2 : Nat → Int64, table2 = vp_updL (set9 table (zl u * zl (S.2.2 (V.2 0) 2)) (zl 0) (zl (S.2.2 (V.2 0) 0) * (zl v - zl u)) (zl 0) (zl u * zl (S.2.2 (V.2 0) 2)) (zl (S.2.2 (V.2 0) 1) * (zl v - zl u))) 8 (zl v * zl (S.2.2 (V.2 0) 2)) → ∀ i, i < 9 → table2 i = zl (simT k (gq S V 0) u v i) := by
      rintro table2 rfl i hi
      rw [et]
      unfold vp_updL set9
      try dsimp only
      simp only [zl_mul, zl_sub]
      rcases (show i = 0 ∨ i = 1 ∨ i = 2 ∨ i = 3 ∨ i = 4 ∨ i = 5 ∨ i = 6 ∨ i = 7 ∨ i = 8 by omega) with rfl | rfl | rfl | rfl | rfl | rfl | rfl | rfl | rfl <;> rfl
    refine ⟨fun h => ?_, fun h => ?_⟩
    · have g : u = 0 := lce h rfl rfl ju j0
      refine ⟨rfl, _, one, two, ?_, fun _ => good _ rfl, rfl⟩
      rw [hb, eb, decide_eq_false (fun q => q.1 g)]; rfl
    have gu : ¬ u = 0 := lcn h rfl rfl
    refine ⟨fun h => ?_, fun h => ?_⟩
    · have g : v = 0 := lce h rfl rfl jv j0
      refine ⟨rfl, _, one, two, ?_, fun _ => good _ rfl, rfl⟩
      rw [hb, eb, decide_eq_false (fun q => q.2 g)]; rfl
    · have gv9 : ¬ v = 0 := lcn h rfl rfl
      refine ⟨rfl, _, one, two, ?_, fun _ => good _ rfl, rfl⟩
      rw [hb, eb, decide_eq_true ⟨gu, gv9⟩]; rfl
  · have k3 : ¬ k = 3 := fun q => hk3 (by rw [q]; rfl)
    have eb : simU k u v = decide (¬ u * u + v * v = 0) := by unfold simU; rw [if_neg k0, if_neg k3]
    have et : simT k (gq S V 0) u v = t9 ((u * u - v * v) * gq S V 0 2) (-(2 * u * v) * gq S V 0 2) (gq S V 0 0 * (u * u + v * v) - (u * u - v * v) * gq S V 0 0 + 2 * u * v * gq S V 0 1) (2 * u * v * gq S V 0 2) ((u * u - v * v) * gq S V 0 2) (gq S V 0 1 * (u * u + v * v) - 2 * u * v * gq S V 0 0 - (u * u - v * v) * gq S V 0 1) 0 0 ((u * u + v * v) * gq S V 0 2) := by unfold simT; rw [if_neg k0, if_neg k3]
    have jn : jr (u * u + v * v) := ab_jr (ab_add (ab_mul hu hu) (ab_mul hv hv)) (by decide)
    refine hX.callV0 (rest := []) (c_set l _ _ _ _ _ _ _ _ _ _ _ _ _ _ _ _ _ _ _ _ _ _ _ _) yX11_set_ok lkX11_120 ivX11_set slX11_set ⟨rfl, rfl, by decide, by decide⟩ (kX11_simple_ok.at 239 rfl) rfl rfl (by decide) rfl rfl rfl (fun _ _ q => by rw [q.2]; rfl) (fun r9 G1 q => ?_)
    obtain ⟨rfl, rfl⟩ := q
    refine hX.run (oc := [(156, oAtS S ro)]) kX11_simple_ok ftX11_ok ctX11_ok hoc [] [] [] 60 ?_
    have good : ∀ table2 : Nat → Int64, table2 = vp_updL (set9 table ((zl u * zl u - zl v * zl v) * zl (S.2.2 (V.2 0) 2)) (-(zl 2 * zl u * zl v) * zl (S.2.2 (V.2 0) 2)) (zl (S.2.2 (V.2 0) 0) * (zl u * zl u + zl v * zl v) - (zl u * zl u - zl v * zl v) * zl (S.2.2 (V.2 0) 0) + zl 2 * zl u * zl v * zl (S.2.2 (V.2 0) 1)) (zl 2 * zl u * zl v * zl (S.2.2 (V.2 0) 2)) ((zl u * zl u - zl v * zl v) * zl (S.2.2 (V.2 0) 2)) (zl (S.2.2 (V.2 0) 1) * (zl u * zl u + zl v * zl v) - zl 2 * zl u * zl v * zl (S.2.2 (V.2 0) 0) - (zl u * zl u - zl v * zl v) * zl (S.2.2 (V.2 0) 1))) 8 ((zl u * zl u + zl v * zl v) * zl (S.2.2 (V.2 0) 2)) → ∀ i, i < 9 → table2 i = zl (simT k (gq S V 0) u v i) := by
      rintro table2 rfl i hi
      rw [et]
      unfold vp_updL set9
      try dsimp only
      simp only [zl_mul, zl_sub, zl_add, zl_neg]
      rcases (show i = 0 ∨ i = 1 ∨ i = 2 ∨ i = 3 ∨ i = 4 ∨ i = 5 ∨ i = 6 ∨ i = 7 ∨ i = 8 by omega) with rfl | rfl | rfl | rfl | rfl | rfl | rfl | rfl | rfl <;> rfl
    refine ⟨fun h => ?_, fun h => ?_⟩
    · have g : u * u + v * v = 0 := lce h (by simp only [zl_mul, zl_add, zl_sub, zl_neg]) rfl jn j0
      refine ⟨rfl, _, one, two, ?_, fun _ => good _ rfl, rfl⟩
      rw [hb, eb, decide_eq_false (fun q => q g)]; rfl
    · have g : ¬ u * u + v * v = 0 := lcn h (by simp only [zl_mul, zl_add, zl_sub, zl_neg]) rfl
      refine ⟨rfl, _, one, two, ?_, fun _ => good _ rfl, rfl⟩
      rw [hb, eb, decide_eq_true g]; rfl
set_option maxHeartbeats 4000000 in
set_option maxRecDepth 100000 in
theorem c_glide (l : Launch) (nm ns ngr : Int32) (pp av be : Int64) (so ro tb gv sd gr : Nat → Int32) (row table one two : Nat → Int64) (S : SO) (V : SV) (hS : RO S so ro) (hV : RV 8 S.1 V gv) (u v : Int) (hu : ab u 1000) (hv : ab v 1000) : xM l yX11_glide cX11_glide 10 (some .boolean) rX11_glide [.ref 0, .long (zl u), .long (zl v)] (GR (nI S.1) nm (nI V.1) ns ngr pp av be so ro tb gv sd gr row table one two) (fun r G => ∃ table' one' two', r = some (.int (bI (gliB S V v))) ∧ ((gliB S V v) = true → ∀ i, i < 9 → table' i = zl (mul9 (gliO (gq S V 0) u v) (mirT (gq S V 0)) i)) ∧ G = GR (nI S.1) nm (nI V.1) ns ngr pp av be so ro tb gv sd gr row table' one' two') := by
  refine xM.of (by decide) (Nat.le_of_ble_eq_true rfl) (fun X hX => ?_)
  have hoc := xoc1 (oAtS_ok hX (by decide) hS) xnoc
  have j0 : jr 0 := ⟨by omega, by omega⟩
  have jv : jr v := ab_jr hv (by decide)
  have no : ∀ table one two : Nat → Int64, gliB S V v = false → narrow .boolean (.int (Int32.ofInt 0)) = .int (Int32.ofInt 0) ∧ ∃ table' one' two', some (Value.int (Int32.ofInt 0)) = some (.int (bI (gliB S V v))) ∧ ((gliB S V v) = true → ∀ i, i < 9 → table' i = zl (mul9 (gliO (gq S V 0) u v) (mirT (gq S V 0)) i)) ∧ (GR (nI S.1) nm (nI V.1) ns ngr pp av be so ro tb gv sd gr row table one two) = GR (nI S.1) nm (nI V.1) ns ngr pp av be so ro tb gv sd gr row table' one' two' := by
    intro table one two h
    rw [h]
    exact ⟨rfl, table, one, two, rfl, fun q => Bool.noConfusion q, rfl⟩
  refine hX.run (oc := [(156, oAtS S ro)]) kX11_glide_ok ftX11_ok ctX11_ok hoc [] [] [] 60 ?_
  refine hX.callV0 (rest := []) (c_mirror l nm ns ngr pp av be so ro tb gv sd gr row table one two S V hS hV) yX11_mirror_ok lkX11_124 ivX11_mirror slX11_mirror ⟨rfl, rfl, by decide, by decide⟩ (kX11_glide_ok.at 1 rfl) rfl rfl (by decide) rfl rfl rfl (fun _ _ q => by obtain ⟨_, _, _, -, -, rfl⟩ := q; rfl) (fun r9 G1 q => ?_)
  obtain ⟨table2, one2, two2, rfl, ht, rfl⟩ := q
  refine hX.run (oc := [(156, oAtS S ro)]) kX11_glide_ok ftX11_ok ctX11_ok hoc [41] [] [] 60 ?_
  refine ⟨fun h => no _ _ _ (by unfold gliB; rw [bI_0.mp h]; rfl), fun h => ?_⟩
  have hm := bI_t h
  have ht := ht hm
  refine ⟨fun h => ?_, fun h => ?_⟩
  · have g : v = 0 := lce h rfl rfl jv j0
    exact no _ _ _ (by unfold gliB; rw [decide_eq_false (fun q => q g), Bool.and_comm]; rfl)
  have g : ¬ v = 0 := lcn h rfl rfl
  have hb : gliB S V v = true := by unfold gliB; rw [hm, decide_eq_true g]; rfl
  have hg : givB S V 1 1 = true := by
    unfold mirB at hm
    simp only [Bool.and_eq_true] at hm
    exact hm.1
  obtain ⟨g1, g2⟩ := givB_1 hg
  have h0 : 0 < V.1 := by omega
  refine ⟨rfl, V.2 0, (hV.2 0 h0).1, ⟨(hV.2 0 h0).2, wid3 _ _ (by decide)⟩, ?_⟩
  refine ⟨rfl, V.2 0, (hV.2 0 h0).1, ⟨(hV.2 0 h0).2, wid3 _ _ (by decide)⟩, ?_⟩
  refine hX.run (oc := [(156, oAtS S ro)]) kX11_glide_ok ftX11_ok ctX11_ok hoc [111] [48, 75] [] 400 ?_
  refine hX.alike (G2 := GR (nI S.1) nm (nI V.1) ns ngr pp av be so ro tb gv sd gr row table2 (fun i => zl (gliO (gq S V 0) u v i)) (fun i => zl (mirT (gq S V 0) i))) ?_ ⟨xsame_rf _, xsame_rf _, xsame_rf _, xsame_rf _, xsame_rf _, xsame_rf _, xsame_rf _, xsame_rf _, xsame_rf _, ⟨rfl, fun i hi => ?_⟩, ⟨rfl, fun i hi => ?_⟩, trivial⟩
  rotate_left
  · unfold vp_updL
    try dsimp only
    simp only [zl_mul, zl_neg]
    rcases (show i = 0 ∨ i = 1 ∨ i = 2 ∨ i = 3 ∨ i = 4 ∨ i = 5 ∨ i = 6 ∨ i = 7 ∨ i = 8 by omega) with rfl | rfl | rfl | rfl | rfl | rfl | rfl | rfl | rfl <;> rfl
  · show _ = zl (mirT (gq S V 0) i)
    rw [← ht i hi]
    unfold vp_updL
    try dsimp only
    rcases (show i = 0 ∨ i = 1 ∨ i = 2 ∨ i = 3 ∨ i = 4 ∨ i = 5 ∨ i = 6 ∨ i = 7 ∨ i = 8 by omega) with rfl | rfl | rfl | rfl | rfl | rfl | rfl | rfl | rfl <;> rfl
  refine hX.run (oc := [(156, oAtS S ro)]) kX11_glide_ok ftX11_ok ctX11_ok hoc [] [] [] 60 ?_
  refine hX.callS [9, 10, 8] [] (c_times l (gliO (gq S V 0) u v) (mirT (gq S V 0)) table2) yX11_times_ok lkX11_128 ssX11_times ⟨rfl, rfl, by decide, by decide⟩ (kX11_glide_ok.at 123 rfl) rfl rfl (by decide) ⟨rfl, rfl, rfl, trivial⟩ rfl (fun _ _ q => by rw [q.2]; rfl) (fun r9 G1 q => ?_)
  obtain ⟨rfl, rfl⟩ := q
  refine hX.run (oc := [(156, oAtS S ro)]) kX11_glide_ok ftX11_ok ctX11_ok hoc [] [] [] 60 ?_
  rw [hb]
  exact ⟨rfl, _, _, _, rfl, fun _ i hi => rfl, rfl⟩
set_option maxHeartbeats 4000000 in
set_option maxRecDepth 100000 in
theorem c_any (l : Launch) (nm ns ngr : Int32) (pp av be : Int64) (so ro tb gv sd gr : Nat → Int32) (row table one two : Nat → Int64) (S : SO) (V : SV) (hS : RO S so ro) (hV : RV 8 S.1 V gv) : xM l yX11_any cX11_any 2 (some .boolean) rX11_any [.ref 0] (GR (nI S.1) nm (nI V.1) ns ngr pp av be so ro tb gv sd gr row table one two) (fun r G => ∃ table' one' two', r = some (.int (bI (anyB S V))) ∧ ((anyB S V) = true → ∀ i, i < 9 → table' i = zl (anyT S V i)) ∧ G = GR (nI S.1) nm (nI V.1) ns ngr pp av be so ro tb gv sd gr row table' one' two') := by
  refine xM.of (by decide) (Nat.le_of_ble_eq_true rfl) (fun X hX => ?_)
  have hoc := xoc1 (oAtS_ok hX (by decide) hS) xnoc
  have j0 : jr 0 := ⟨by omega, by omega⟩
  have no : (anyB S V) = false → narrow .boolean (.int (Int32.ofInt 0)) = .int (Int32.ofInt 0) ∧ ∃ table' one' two', some (Value.int (Int32.ofInt 0)) = some (.int (bI (anyB S V))) ∧ ((anyB S V) = true → ∀ i, i < 9 → table' i = zl (anyT S V i)) ∧ (GR (nI S.1) nm (nI V.1) ns ngr pp av be so ro tb gv sd gr row table one two) = GR (nI S.1) nm (nI V.1) ns ngr pp av be so ro tb gv sd gr row table' one' two' := by
    intro h
    rw [h]
    exact ⟨rfl, table, one, two, rfl, fun q => Bool.noConfusion q, rfl⟩
  refine hX.run (oc := [(156, oAtS S ro)]) kX11_any_ok ftX11_ok ctX11_ok hoc [] [] [] 60 ?_
  refine hX.callV0 (rest := []) (c_areGiven l nm ns ngr pp av be so ro tb gv sd gr row table one two S V hS hV 3 1 (by omega) (by omega)) yX11_areGiven_ok lkX11_111 ivX11_areGiven slX11_areGiven ⟨rfl, rfl, by decide, by decide⟩ (kX11_any_ok.at 3 rfl) rfl rfl (by decide) rfl rfl rfl (fun _ _ q => by rw [q.2]) (fun r9 G1 q => ?_)
  obtain ⟨rfl, rfl⟩ := q
  refine hX.run (oc := [(156, oAtS S ro)]) kX11_any_ok ftX11_ok ctX11_ok hoc [13] [] [] 60 ?_
  refine ⟨fun h => no (by unfold anyB; rw [bI_0.mp h]; rfl), fun h => ?_⟩
  have hg := bI_t h
  obtain ⟨g1, g2⟩ := givB_1 hg
  refine hX.run (oc := [(156, oAtS S ro)]) kX11_any_ok ftX11_ok ctX11_ok hoc [46] [16] [] 400 ?_
  refine ⟨rfl, V.2 0, (hV.2 0 (by omega)).1, ⟨(hV.2 0 (by omega)).2, wid3 _ _ (by decide)⟩, ?_⟩
  refine ⟨rfl, V.2 0, (hV.2 0 (by omega)).1, ⟨(hV.2 0 (by omega)).2, wid3 _ _ (by decide)⟩, ?_⟩
  refine ⟨rfl, V.2 0, (hV.2 0 (by omega)).1, ⟨(hV.2 0 (by omega)).2, wid3 _ _ (by decide)⟩, ?_⟩
  refine ⟨rfl, V.2 1, (hV.2 1 (by omega)).1, ⟨(hV.2 1 (by omega)).2, wid3 _ _ (by decide)⟩, ?_⟩
  refine ⟨rfl, V.2 1, (hV.2 1 (by omega)).1, ⟨(hV.2 1 (by omega)).2, wid3 _ _ (by decide)⟩, ?_⟩
  refine ⟨rfl, V.2 1, (hV.2 1 (by omega)).1, ⟨(hV.2 1 (by omega)).2, wid3 _ _ (by decide)⟩, ?_⟩
  refine ⟨rfl, V.2 2, (hV.2 2 (by omega)).1, ⟨(hV.2 2 (by omega)).2, wid3 _ _ (by decide)⟩, ?_⟩
  refine ⟨rfl, V.2 2, (hV.2 2 (by omega)).1, ⟨(hV.2 2 (by omega)).2, wid3 _ _ (by decide)⟩, ?_⟩
  refine ⟨rfl, V.2 2, (hV.2 2 (by omega)).1, ⟨(hV.2 2 (by omega)).2, wid3 _ _ (by decide)⟩, ?_⟩
  refine hX.alike (G2 := GR (nI S.1) nm (nI V.1) ns ngr pp av be so ro tb gv sd gr row (fun i => zl (anyT S V i)) one two) ?_ ⟨xsame_rf _, xsame_rf _, xsame_rf _, xsame_rf _, xsame_rf _, xsame_rf _, xsame_rf _, xsame_rf _, ⟨rfl, fun i hi => ?_⟩, xsame_rf _, xsame_rf _, trivial⟩
  rotate_left
  · unfold vp_updL
    try dsimp only
    rcases (show i = 0 ∨ i = 1 ∨ i = 2 ∨ i = 3 ∨ i = 4 ∨ i = 5 ∨ i = 6 ∨ i = 7 ∨ i = 8 by omega) with rfl | rfl | rfl | rfl | rfl | rfl | rfl | rfl | rfl <;> rfl
  refine hX.run (oc := [(156, oAtS S ro)]) kX11_any_ok ftX11_ok ctX11_ok hoc [] [] [] 60 ?_
  refine hX.callS [8] [] (c_det l (anyT S V)) yX11_det_ok lkX11_132 ssX11_det ⟨rfl, rfl, by decide, by decide⟩ (kX11_any_ok.at 50 rfl) rfl rfl (by decide) ⟨rfl, trivial⟩ rfl (fun _ _ q => by rw [q.2]) (fun r9 G1 q => ?_)
  obtain ⟨rfl, rfl⟩ := q
  have hx : ∀ i, i < 9 → ab (anyT S V i) 2000 := fun i hi => ab_le (gq_bd hS hV (by omega) (Nat.mod_lt _ (by omega))) (by decide)
  have jd : jr (det9 (anyT S V)) := ab_jr (det9_bd hx) (by decide)
  refine hX.run (oc := [(156, oAtS S ro)]) kX11_any_ok ftX11_ok ctX11_ok hoc [] [] [] 60 ?_
  refine ⟨fun h => ?_, fun h => ?_⟩
  · have g : det9 (anyT S V) = 0 := lce h rfl rfl jd j0
    refine ⟨rfl, _, one, two, ?_, fun _ i hi => rfl, rfl⟩
    unfold anyB
    rw [hg, decide_eq_false (fun q => q g)]; rfl
  · have g : ¬ det9 (anyT S V) = 0 := lcn h rfl rfl
    refine ⟨rfl, _, one, two, ?_, fun _ i hi => rfl, rfl⟩
    unfold anyB
    rw [hg, decide_eq_true g]; rfl
