/-! the class: the maker -/
def gmap : Nat → Option Nat := xnth [7, 8, 9, 10, 11, 12, 13, 14]
def fmap : Nat → Option Nat := xnth [15, 16, 17]
def tmap : Nat → Option Nat := xnth [18, 19, 20]
def cAll (n : Nat) (ss : Nat → Nat) (s many : Nat) : Bool := alB (fun k => decide (ss k = s)) n && decide (n = many)
def cNear (n : Nat) (ss : Nat → Nat) (q : Nat → Nat → Int) (many : Nat) : Bool := alB (fun k => !decide (q k 2 = 0)) n && cAll n ss 0 many
/-- what THE ROW gives -/
def MR (n : Nat) (ss : Nat → Nat) (mks : Nat → Int32) (q : Nat → Nat → Int) : Prop := n ≤ 8 ∧ (∀ k, k < n → mks k = nI (ss k) ∧ ss k ≤ 2) ∧ ∀ k i, k < n → i < 3 → ab (q k i) 500
set_option maxHeartbeats 4000000 in
set_option maxRecDepth 100000 in
theorem k_areAll (l : Launch) (n : Nat) (mks : Nat → Int32) (q : Nat → Nat → Int) (f0 f1 f2 t0 t1 t2 we pa out : Nat → Int64) (ss : Nat → Nat) (hr : MR n ss mks q) (s many : Nat) (hs : s ≤ 2) (hm : many ≤ 8) : xM l yX5_areAll cX5_areAll 4 (some .boolean) rX5_areAll [.ref 0, .int (nI s), .int (nI many)] [.inr (3, [.ref 1, .ref 2, .ref 3, .ref 4, .ref 5, .ref 6, .int (nI n)]), .inl (8, .inl (mks)), .inl (8, .inr (.inr (.inr (.inr (gmap))))), .inl (3, .inr (.inr (.inr (.inr (fmap))))), .inl (3, .inr (.inr (.inr (.inr (tmap))))), .inl (3, .inr (.inl (we))), .inl (2, .inr (.inl (pa))), .inl (3, .inr (.inl (fun i => zl (q 0 i)))), .inl (3, .inr (.inl (fun i => zl (q 1 i)))), .inl (3, .inr (.inl (fun i => zl (q 2 i)))), .inl (3, .inr (.inl (fun i => zl (q 3 i)))), .inl (3, .inr (.inl (fun i => zl (q 4 i)))), .inl (3, .inr (.inl (fun i => zl (q 5 i)))), .inl (3, .inr (.inl (fun i => zl (q 6 i)))), .inl (3, .inr (.inl (fun i => zl (q 7 i)))), .inl (3, .inr (.inl (f0))), .inl (3, .inr (.inl (f1))), .inl (3, .inr (.inl (f2))), .inl (3, .inr (.inl (t0))), .inl (3, .inr (.inl (t1))), .inl (3, .inr (.inl (t2))), .inl (9, .inr (.inl (out)))] (fun r G => r = some (.int (bI (cAll n ss s many))) ∧ G = [.inr (3, [.ref 1, .ref 2, .ref 3, .ref 4, .ref 5, .ref 6, .int (nI n)]), .inl (8, .inl (mks)), .inl (8, .inr (.inr (.inr (.inr (gmap))))), .inl (3, .inr (.inr (.inr (.inr (fmap))))), .inl (3, .inr (.inr (.inr (.inr (tmap))))), .inl (3, .inr (.inl (we))), .inl (2, .inr (.inl (pa))), .inl (3, .inr (.inl (fun i => zl (q 0 i)))), .inl (3, .inr (.inl (fun i => zl (q 1 i)))), .inl (3, .inr (.inl (fun i => zl (q 2 i)))), .inl (3, .inr (.inl (fun i => zl (q 3 i)))), .inl (3, .inr (.inl (fun i => zl (q 4 i)))), .inl (3, .inr (.inl (fun i => zl (q 5 i)))), .inl (3, .inr (.inl (fun i => zl (q 6 i)))), .inl (3, .inr (.inl (fun i => zl (q 7 i)))), .inl (3, .inr (.inl (f0))), .inl (3, .inr (.inl (f1))), .inl (3, .inr (.inl (f2))), .inl (3, .inr (.inl (t0))), .inl (3, .inr (.inl (t1))), .inl (3, .inr (.inl (t2))), .inl (9, .inr (.inl (out)))]) := by
  refine xM.of (by decide) (Nat.le_of_ble_eq_true rfl) (fun X hX => ?_)
  have hn := hr.1
  have main : ∀ d k, d + k = n → alB (fun k => decide (ss k = s)) k = true → X 2 [some (.ref 0), some (.int (nI s)), some (.int (nI many)), some (.int (nI k))] [] [.inr (3, [.ref 1, .ref 2, .ref 3, .ref 4, .ref 5, .ref 6, .int (nI n)]), .inl (8, .inl (mks)), .inl (8, .inr (.inr (.inr (.inr (gmap))))), .inl (3, .inr (.inr (.inr (.inr (fmap))))), .inl (3, .inr (.inr (.inr (.inr (tmap))))), .inl (3, .inr (.inl (we))), .inl (2, .inr (.inl (pa))), .inl (3, .inr (.inl (fun i => zl (q 0 i)))), .inl (3, .inr (.inl (fun i => zl (q 1 i)))), .inl (3, .inr (.inl (fun i => zl (q 2 i)))), .inl (3, .inr (.inl (fun i => zl (q 3 i)))), .inl (3, .inr (.inl (fun i => zl (q 4 i)))), .inl (3, .inr (.inl (fun i => zl (q 5 i)))), .inl (3, .inr (.inl (fun i => zl (q 6 i)))), .inl (3, .inr (.inl (fun i => zl (q 7 i)))), .inl (3, .inr (.inl (f0))), .inl (3, .inr (.inl (f1))), .inl (3, .inr (.inl (f2))), .inl (3, .inr (.inl (t0))), .inl (3, .inr (.inl (t1))), .inl (3, .inr (.inl (t2))), .inl (9, .inr (.inl (out)))] := by
    intro d
    induction d with
    | zero =>
      intro k hk hb
      have hk : k = n := by omega
      subst hk
      refine hX.run (ft := ftX5) (ct := ctX5) (oc := []) kX5_areAll_ok ftX5_ok ctX5_ok xnoc [] [] [] 80 ?_
      refine ⟨fun _ => ?_, fun h => absurd (nI_le (Nat.le_refl _) (by omega)) h⟩
      unfold cAll
      rw [hb]
      refine ⟨fun h => ?_, fun h => ?_⟩
      · have h1 : k = many := by
          have h2 : nI k = nI many := h
          rwa [nI_eq (by omega) (by omega)] at h2
        rw [decide_eq_true h1]
        exact ⟨rfl, rfl, rfl⟩
      · have h1 : ¬ k = many := fun e => h (by rw [e])
        rw [decide_eq_false h1]
        exact ⟨rfl, rfl, rfl⟩
    | succ d ih =>
      intro k hk hb
      have hih := ih (k + 1) (by omega)
      rw [← nI_1 k] at hih
      have hs2 := hr.2.1 k (by omega)
      refine hX.run (ft := ftX5) (ct := ctX5) (oc := []) kX5_areAll_ok ftX5_ok ctX5_ok xnoc [2] [] [21] 80 ?_
      refine ⟨fun h => absurd h (nI_ge (by omega) (by omega)), fun _ => ?_⟩
      refine ⟨fun h => absurd h (nI_ge (b := 8) (by omega) (by omega)), fun _ => ?_⟩
      refine ⟨k, rfl, by omega, by omega, ?_⟩
      refine ⟨fun h => ?_, fun h => ?_⟩
      · have h1 : ss k = s := by
          have h2 : nI (ss k) = nI s := hs2.1.symm.trans h
          rwa [nI_eq (by omega) (by omega)] at h2
        exact hih (by unfold alB; rw [hb, decide_eq_true h1]; rfl)
      · have h1 : ¬ ss k = s := fun e => h (by show mks k = nI s; rw [hs2.1, e])
        have e : cAll n ss s many = false := by
          unfold cAll
          rw [alB_no (P := fun k => decide (ss k = s)) (k := k) (decide_eq_false h1) (by omega)]; rfl
        rw [e]
        exact ⟨rfl, rfl, rfl⟩
  have := main n 0 (by omega) rfl
  refine hX.run (ft := ftX5) (ct := ctX5) (oc := []) kX5_areAll_ok ftX5_ok ctX5_ok xnoc [2] [] [] 80 ?_
  exact this
set_option maxHeartbeats 4000000 in
set_option maxRecDepth 100000 in
theorem k_areNear (l : Launch) (n : Nat) (mks : Nat → Int32) (q : Nat → Nat → Int) (f0 f1 f2 t0 t1 t2 we pa out : Nat → Int64) (ss : Nat → Nat) (hr : MR n ss mks q) (many : Nat) (hm : many ≤ 8) : xM l yX5_areNear cX5_areNear 3 (some .boolean) rX5_areNear [.ref 0, .int (nI many)] [.inr (3, [.ref 1, .ref 2, .ref 3, .ref 4, .ref 5, .ref 6, .int (nI n)]), .inl (8, .inl (mks)), .inl (8, .inr (.inr (.inr (.inr (gmap))))), .inl (3, .inr (.inr (.inr (.inr (fmap))))), .inl (3, .inr (.inr (.inr (.inr (tmap))))), .inl (3, .inr (.inl (we))), .inl (2, .inr (.inl (pa))), .inl (3, .inr (.inl (fun i => zl (q 0 i)))), .inl (3, .inr (.inl (fun i => zl (q 1 i)))), .inl (3, .inr (.inl (fun i => zl (q 2 i)))), .inl (3, .inr (.inl (fun i => zl (q 3 i)))), .inl (3, .inr (.inl (fun i => zl (q 4 i)))), .inl (3, .inr (.inl (fun i => zl (q 5 i)))), .inl (3, .inr (.inl (fun i => zl (q 6 i)))), .inl (3, .inr (.inl (fun i => zl (q 7 i)))), .inl (3, .inr (.inl (f0))), .inl (3, .inr (.inl (f1))), .inl (3, .inr (.inl (f2))), .inl (3, .inr (.inl (t0))), .inl (3, .inr (.inl (t1))), .inl (3, .inr (.inl (t2))), .inl (9, .inr (.inl (out)))] (fun r G => r = some (.int (bI (cNear n ss q many))) ∧ G = [.inr (3, [.ref 1, .ref 2, .ref 3, .ref 4, .ref 5, .ref 6, .int (nI n)]), .inl (8, .inl (mks)), .inl (8, .inr (.inr (.inr (.inr (gmap))))), .inl (3, .inr (.inr (.inr (.inr (fmap))))), .inl (3, .inr (.inr (.inr (.inr (tmap))))), .inl (3, .inr (.inl (we))), .inl (2, .inr (.inl (pa))), .inl (3, .inr (.inl (fun i => zl (q 0 i)))), .inl (3, .inr (.inl (fun i => zl (q 1 i)))), .inl (3, .inr (.inl (fun i => zl (q 2 i)))), .inl (3, .inr (.inl (fun i => zl (q 3 i)))), .inl (3, .inr (.inl (fun i => zl (q 4 i)))), .inl (3, .inr (.inl (fun i => zl (q 5 i)))), .inl (3, .inr (.inl (fun i => zl (q 6 i)))), .inl (3, .inr (.inl (fun i => zl (q 7 i)))), .inl (3, .inr (.inl (f0))), .inl (3, .inr (.inl (f1))), .inl (3, .inr (.inl (f2))), .inl (3, .inr (.inl (t0))), .inl (3, .inr (.inl (t1))), .inl (3, .inr (.inl (t2))), .inl (9, .inr (.inl (out)))]) := by
  refine xM.of (by decide) (Nat.le_of_ble_eq_true rfl) (fun X hX => ?_)
  have hn := hr.1
  have j0 : jr 0 := ⟨by omega, by omega⟩
  have fin : alB (fun k => !decide (q k 2 = 0)) n = true → X 37 [some (.ref 0), some (.int (nI many)), none] [] [.inr (3, [.ref 1, .ref 2, .ref 3, .ref 4, .ref 5, .ref 6, .int (nI n)]), .inl (8, .inl (mks)), .inl (8, .inr (.inr (.inr (.inr (gmap))))), .inl (3, .inr (.inr (.inr (.inr (fmap))))), .inl (3, .inr (.inr (.inr (.inr (tmap))))), .inl (3, .inr (.inl (we))), .inl (2, .inr (.inl (pa))), .inl (3, .inr (.inl (fun i => zl (q 0 i)))), .inl (3, .inr (.inl (fun i => zl (q 1 i)))), .inl (3, .inr (.inl (fun i => zl (q 2 i)))), .inl (3, .inr (.inl (fun i => zl (q 3 i)))), .inl (3, .inr (.inl (fun i => zl (q 4 i)))), .inl (3, .inr (.inl (fun i => zl (q 5 i)))), .inl (3, .inr (.inl (fun i => zl (q 6 i)))), .inl (3, .inr (.inl (fun i => zl (q 7 i)))), .inl (3, .inr (.inl (f0))), .inl (3, .inr (.inl (f1))), .inl (3, .inr (.inl (f2))), .inl (3, .inr (.inl (t0))), .inl (3, .inr (.inl (t1))), .inl (3, .inr (.inl (t2))), .inl (9, .inr (.inl (out)))] := by
    intro hb
    refine hX.run (ft := ftX5) (ct := ctX5) (oc := []) kX5_areNear_ok ftX5_ok ctX5_ok xnoc [] [] [] 80 ?_
    refine hX.callV0 (rest := []) (k_areAll l n mks q f0 f1 f2 t0 t1 t2 we pa out ss hr 0 many (by omega) (by omega)) yX5_areAll_ok lkX5_97 ivX5_areAll slX5_areAll ⟨rfl, rfl, by decide, by decide⟩ (kX5_areNear_ok.at 40 rfl) rfl rfl (by decide) rfl rfl rfl (fun _ _ q => by rw [q.2]) (fun r9 G1 q => ?_)
    obtain ⟨rfl, rfl⟩ := q
    refine hX.run (ft := ftX5) (ct := ctX5) (oc := []) kX5_areNear_ok ftX5_ok ctX5_ok xnoc [] [] [] 80 ?_
    unfold cNear
    rw [hb]
    exact ⟨bI_nar _, rfl, rfl⟩
  have s8 : n = 8 → alB (fun k => !decide (q k 2 = 0)) 8 = true → X 2 [some (.ref 0), some (.int (nI many)), some (.int (nI 8))] [] [.inr (3, [.ref 1, .ref 2, .ref 3, .ref 4, .ref 5, .ref 6, .int (nI n)]), .inl (8, .inl (mks)), .inl (8, .inr (.inr (.inr (.inr (gmap))))), .inl (3, .inr (.inr (.inr (.inr (fmap))))), .inl (3, .inr (.inr (.inr (.inr (tmap))))), .inl (3, .inr (.inl (we))), .inl (2, .inr (.inl (pa))), .inl (3, .inr (.inl (fun i => zl (q 0 i)))), .inl (3, .inr (.inl (fun i => zl (q 1 i)))), .inl (3, .inr (.inl (fun i => zl (q 2 i)))), .inl (3, .inr (.inl (fun i => zl (q 3 i)))), .inl (3, .inr (.inl (fun i => zl (q 4 i)))), .inl (3, .inr (.inl (fun i => zl (q 5 i)))), .inl (3, .inr (.inl (fun i => zl (q 6 i)))), .inl (3, .inr (.inl (fun i => zl (q 7 i)))), .inl (3, .inr (.inl (f0))), .inl (3, .inr (.inl (f1))), .inl (3, .inr (.inl (f2))), .inl (3, .inr (.inl (t0))), .inl (3, .inr (.inl (t1))), .inl (3, .inr (.inl (t2))), .inl (9, .inr (.inl (out)))] := by
    intro e hb
    have hb2 : alB (fun k => !decide (q k 2 = 0)) n = true := by rw [e]; exact hb
    refine hX.run (ft := ftX5) (ct := ctX5) (oc := []) kX5_areNear_ok ftX5_ok ctX5_ok xnoc [37] [] [] 80 ?_
    refine ⟨fun _ => hX.less (fin hb2) ⟨rfl, rfl, trivial⟩, fun h => absurd (by rw [e]; exact nI_le (Nat.le_refl 8) (by omega)) h⟩
  have s7 : 7 ≤ n → alB (fun k => !decide (q k 2 = 0)) 7 = true → X 2 [some (.ref 0), some (.int (nI many)), some (.int (nI 7))] [] [.inr (3, [.ref 1, .ref 2, .ref 3, .ref 4, .ref 5, .ref 6, .int (nI n)]), .inl (8, .inl (mks)), .inl (8, .inr (.inr (.inr (.inr (gmap))))), .inl (3, .inr (.inr (.inr (.inr (fmap))))), .inl (3, .inr (.inr (.inr (.inr (tmap))))), .inl (3, .inr (.inl (we))), .inl (2, .inr (.inl (pa))), .inl (3, .inr (.inl (fun i => zl (q 0 i)))), .inl (3, .inr (.inl (fun i => zl (q 1 i)))), .inl (3, .inr (.inl (fun i => zl (q 2 i)))), .inl (3, .inr (.inl (fun i => zl (q 3 i)))), .inl (3, .inr (.inl (fun i => zl (q 4 i)))), .inl (3, .inr (.inl (fun i => zl (q 5 i)))), .inl (3, .inr (.inl (fun i => zl (q 6 i)))), .inl (3, .inr (.inl (fun i => zl (q 7 i)))), .inl (3, .inr (.inl (f0))), .inl (3, .inr (.inl (f1))), .inl (3, .inr (.inl (f2))), .inl (3, .inr (.inl (t0))), .inl (3, .inr (.inl (t1))), .inl (3, .inr (.inl (t2))), .inl (9, .inr (.inl (out)))] := by
    intro hk hb
    refine hX.run (ft := ftX5) (ct := ctX5) (oc := []) kX5_areNear_ok ftX5_ok ctX5_ok xnoc [2, 37] [13] [] 80 ?_
    refine ⟨fun h => ?_, fun h => ?_⟩
    · have h1 : n = 7 := by
        have h2 : nI n ≤ nI 7 := h
        rw [nI_leI (by omega) (by omega)] at h2
        omega
      exact hX.less (fin (by rw [h1]; exact hb)) ⟨rfl, rfl, trivial⟩
    have h1 : 7 < n := by
      have h2 : ¬ nI n ≤ nI 7 := h
      rw [nI_leI (by omega) (by omega)] at h2
      omega
    refine ⟨fun h => ?_, fun h => ?_⟩
    · have g : q 7 2 = 0 := lce h rfl rfl (ab_jr (hr.2.2 7 2 h1 (by omega)) (by decide)) j0
      have e : cNear n ss q many = false := by
        unfold cNear
        rw [alB_no (P := fun k => !decide (q k 2 = 0)) (k := 7) (by rw [decide_eq_true g]; rfl) h1]; rfl
      rw [e]
      exact ⟨rfl, rfl, rfl⟩
    · have g : ¬ q 7 2 = 0 := lcn h rfl rfl
      exact s8 (by omega) (by unfold alB; rw [hb, decide_eq_false g]; rfl)
  have s6 : 6 ≤ n → alB (fun k => !decide (q k 2 = 0)) 6 = true → X 2 [some (.ref 0), some (.int (nI many)), some (.int (nI 6))] [] [.inr (3, [.ref 1, .ref 2, .ref 3, .ref 4, .ref 5, .ref 6, .int (nI n)]), .inl (8, .inl (mks)), .inl (8, .inr (.inr (.inr (.inr (gmap))))), .inl (3, .inr (.inr (.inr (.inr (fmap))))), .inl (3, .inr (.inr (.inr (.inr (tmap))))), .inl (3, .inr (.inl (we))), .inl (2, .inr (.inl (pa))), .inl (3, .inr (.inl (fun i => zl (q 0 i)))), .inl (3, .inr (.inl (fun i => zl (q 1 i)))), .inl (3, .inr (.inl (fun i => zl (q 2 i)))), .inl (3, .inr (.inl (fun i => zl (q 3 i)))), .inl (3, .inr (.inl (fun i => zl (q 4 i)))), .inl (3, .inr (.inl (fun i => zl (q 5 i)))), .inl (3, .inr (.inl (fun i => zl (q 6 i)))), .inl (3, .inr (.inl (fun i => zl (q 7 i)))), .inl (3, .inr (.inl (f0))), .inl (3, .inr (.inl (f1))), .inl (3, .inr (.inl (f2))), .inl (3, .inr (.inl (t0))), .inl (3, .inr (.inl (t1))), .inl (3, .inr (.inl (t2))), .inl (9, .inr (.inl (out)))] := by
    intro hk hb
    refine hX.run (ft := ftX5) (ct := ctX5) (oc := []) kX5_areNear_ok ftX5_ok ctX5_ok xnoc [2, 37] [13] [] 80 ?_
    refine ⟨fun h => ?_, fun h => ?_⟩
    · have h1 : n = 6 := by
        have h2 : nI n ≤ nI 6 := h
        rw [nI_leI (by omega) (by omega)] at h2
        omega
      exact hX.less (fin (by rw [h1]; exact hb)) ⟨rfl, rfl, trivial⟩
    have h1 : 6 < n := by
      have h2 : ¬ nI n ≤ nI 6 := h
      rw [nI_leI (by omega) (by omega)] at h2
      omega
    refine ⟨fun h => ?_, fun h => ?_⟩
    · have g : q 6 2 = 0 := lce h rfl rfl (ab_jr (hr.2.2 6 2 h1 (by omega)) (by decide)) j0
      have e : cNear n ss q many = false := by
        unfold cNear
        rw [alB_no (P := fun k => !decide (q k 2 = 0)) (k := 6) (by rw [decide_eq_true g]; rfl) h1]; rfl
      rw [e]
      exact ⟨rfl, rfl, rfl⟩
    · have g : ¬ q 6 2 = 0 := lcn h rfl rfl
      exact s7 (by omega) (by unfold alB; rw [hb, decide_eq_false g]; rfl)
  have s5 : 5 ≤ n → alB (fun k => !decide (q k 2 = 0)) 5 = true → X 2 [some (.ref 0), some (.int (nI many)), some (.int (nI 5))] [] [.inr (3, [.ref 1, .ref 2, .ref 3, .ref 4, .ref 5, .ref 6, .int (nI n)]), .inl (8, .inl (mks)), .inl (8, .inr (.inr (.inr (.inr (gmap))))), .inl (3, .inr (.inr (.inr (.inr (fmap))))), .inl (3, .inr (.inr (.inr (.inr (tmap))))), .inl (3, .inr (.inl (we))), .inl (2, .inr (.inl (pa))), .inl (3, .inr (.inl (fun i => zl (q 0 i)))), .inl (3, .inr (.inl (fun i => zl (q 1 i)))), .inl (3, .inr (.inl (fun i => zl (q 2 i)))), .inl (3, .inr (.inl (fun i => zl (q 3 i)))), .inl (3, .inr (.inl (fun i => zl (q 4 i)))), .inl (3, .inr (.inl (fun i => zl (q 5 i)))), .inl (3, .inr (.inl (fun i => zl (q 6 i)))), .inl (3, .inr (.inl (fun i => zl (q 7 i)))), .inl (3, .inr (.inl (f0))), .inl (3, .inr (.inl (f1))), .inl (3, .inr (.inl (f2))), .inl (3, .inr (.inl (t0))), .inl (3, .inr (.inl (t1))), .inl (3, .inr (.inl (t2))), .inl (9, .inr (.inl (out)))] := by
    intro hk hb
    refine hX.run (ft := ftX5) (ct := ctX5) (oc := []) kX5_areNear_ok ftX5_ok ctX5_ok xnoc [2, 37] [13] [] 80 ?_
    refine ⟨fun h => ?_, fun h => ?_⟩
    · have h1 : n = 5 := by
        have h2 : nI n ≤ nI 5 := h
        rw [nI_leI (by omega) (by omega)] at h2
        omega
      exact hX.less (fin (by rw [h1]; exact hb)) ⟨rfl, rfl, trivial⟩
    have h1 : 5 < n := by
      have h2 : ¬ nI n ≤ nI 5 := h
      rw [nI_leI (by omega) (by omega)] at h2
      omega
    refine ⟨fun h => ?_, fun h => ?_⟩
    · have g : q 5 2 = 0 := lce h rfl rfl (ab_jr (hr.2.2 5 2 h1 (by omega)) (by decide)) j0
      have e : cNear n ss q many = false := by
        unfold cNear
        rw [alB_no (P := fun k => !decide (q k 2 = 0)) (k := 5) (by rw [decide_eq_true g]; rfl) h1]; rfl
      rw [e]
      exact ⟨rfl, rfl, rfl⟩
    · have g : ¬ q 5 2 = 0 := lcn h rfl rfl
      exact s6 (by omega) (by unfold alB; rw [hb, decide_eq_false g]; rfl)
  have s4 : 4 ≤ n → alB (fun k => !decide (q k 2 = 0)) 4 = true → X 2 [some (.ref 0), some (.int (nI many)), some (.int (nI 4))] [] [.inr (3, [.ref 1, .ref 2, .ref 3, .ref 4, .ref 5, .ref 6, .int (nI n)]), .inl (8, .inl (mks)), .inl (8, .inr (.inr (.inr (.inr (gmap))))), .inl (3, .inr (.inr (.inr (.inr (fmap))))), .inl (3, .inr (.inr (.inr (.inr (tmap))))), .inl (3, .inr (.inl (we))), .inl (2, .inr (.inl (pa))), .inl (3, .inr (.inl (fun i => zl (q 0 i)))), .inl (3, .inr (.inl (fun i => zl (q 1 i)))), .inl (3, .inr (.inl (fun i => zl (q 2 i)))), .inl (3, .inr (.inl (fun i => zl (q 3 i)))), .inl (3, .inr (.inl (fun i => zl (q 4 i)))), .inl (3, .inr (.inl (fun i => zl (q 5 i)))), .inl (3, .inr (.inl (fun i => zl (q 6 i)))), .inl (3, .inr (.inl (fun i => zl (q 7 i)))), .inl (3, .inr (.inl (f0))), .inl (3, .inr (.inl (f1))), .inl (3, .inr (.inl (f2))), .inl (3, .inr (.inl (t0))), .inl (3, .inr (.inl (t1))), .inl (3, .inr (.inl (t2))), .inl (9, .inr (.inl (out)))] := by
    intro hk hb
    refine hX.run (ft := ftX5) (ct := ctX5) (oc := []) kX5_areNear_ok ftX5_ok ctX5_ok xnoc [2, 37] [13] [] 80 ?_
    refine ⟨fun h => ?_, fun h => ?_⟩
    · have h1 : n = 4 := by
        have h2 : nI n ≤ nI 4 := h
        rw [nI_leI (by omega) (by omega)] at h2
        omega
      exact hX.less (fin (by rw [h1]; exact hb)) ⟨rfl, rfl, trivial⟩
    have h1 : 4 < n := by
      have h2 : ¬ nI n ≤ nI 4 := h
      rw [nI_leI (by omega) (by omega)] at h2
      omega
    refine ⟨fun h => ?_, fun h => ?_⟩
    · have g : q 4 2 = 0 := lce h rfl rfl (ab_jr (hr.2.2 4 2 h1 (by omega)) (by decide)) j0
      have e : cNear n ss q many = false := by
        unfold cNear
        rw [alB_no (P := fun k => !decide (q k 2 = 0)) (k := 4) (by rw [decide_eq_true g]; rfl) h1]; rfl
      rw [e]
      exact ⟨rfl, rfl, rfl⟩
    · have g : ¬ q 4 2 = 0 := lcn h rfl rfl
      exact s5 (by omega) (by unfold alB; rw [hb, decide_eq_false g]; rfl)
  have s3 : 3 ≤ n → alB (fun k => !decide (q k 2 = 0)) 3 = true → X 2 [some (.ref 0), some (.int (nI many)), some (.int (nI 3))] [] [.inr (3, [.ref 1, .ref 2, .ref 3, .ref 4, .ref 5, .ref 6, .int (nI n)]), .inl (8, .inl (mks)), .inl (8, .inr (.inr (.inr (.inr (gmap))))), .inl (3, .inr (.inr (.inr (.inr (fmap))))), .inl (3, .inr (.inr (.inr (.inr (tmap))))), .inl (3, .inr (.inl (we))), .inl (2, .inr (.inl (pa))), .inl (3, .inr (.inl (fun i => zl (q 0 i)))), .inl (3, .inr (.inl (fun i => zl (q 1 i)))), .inl (3, .inr (.inl (fun i => zl (q 2 i)))), .inl (3, .inr (.inl (fun i => zl (q 3 i)))), .inl (3, .inr (.inl (fun i => zl (q 4 i)))), .inl (3, .inr (.inl (fun i => zl (q 5 i)))), .inl (3, .inr (.inl (fun i => zl (q 6 i)))), .inl (3, .inr (.inl (fun i => zl (q 7 i)))), .inl (3, .inr (.inl (f0))), .inl (3, .inr (.inl (f1))), .inl (3, .inr (.inl (f2))), .inl (3, .inr (.inl (t0))), .inl (3, .inr (.inl (t1))), .inl (3, .inr (.inl (t2))), .inl (9, .inr (.inl (out)))] := by
    intro hk hb
    refine hX.run (ft := ftX5) (ct := ctX5) (oc := []) kX5_areNear_ok ftX5_ok ctX5_ok xnoc [2, 37] [13] [] 80 ?_
    refine ⟨fun h => ?_, fun h => ?_⟩
    · have h1 : n = 3 := by
        have h2 : nI n ≤ nI 3 := h
        rw [nI_leI (by omega) (by omega)] at h2
        omega
      exact hX.less (fin (by rw [h1]; exact hb)) ⟨rfl, rfl, trivial⟩
    have h1 : 3 < n := by
      have h2 : ¬ nI n ≤ nI 3 := h
      rw [nI_leI (by omega) (by omega)] at h2
      omega
    refine ⟨fun h => ?_, fun h => ?_⟩
    · have g : q 3 2 = 0 := lce h rfl rfl (ab_jr (hr.2.2 3 2 h1 (by omega)) (by decide)) j0
      have e : cNear n ss q many = false := by
        unfold cNear
        rw [alB_no (P := fun k => !decide (q k 2 = 0)) (k := 3) (by rw [decide_eq_true g]; rfl) h1]; rfl
      rw [e]
      exact ⟨rfl, rfl, rfl⟩
    · have g : ¬ q 3 2 = 0 := lcn h rfl rfl
      exact s4 (by omega) (by unfold alB; rw [hb, decide_eq_false g]; rfl)
  have s2 : 2 ≤ n → alB (fun k => !decide (q k 2 = 0)) 2 = true → X 2 [some (.ref 0), some (.int (nI many)), some (.int (nI 2))] [] [.inr (3, [.ref 1, .ref 2, .ref 3, .ref 4, .ref 5, .ref 6, .int (nI n)]), .inl (8, .inl (mks)), .inl (8, .inr (.inr (.inr (.inr (gmap))))), .inl (3, .inr (.inr (.inr (.inr (fmap))))), .inl (3, .inr (.inr (.inr (.inr (tmap))))), .inl (3, .inr (.inl (we))), .inl (2, .inr (.inl (pa))), .inl (3, .inr (.inl (fun i => zl (q 0 i)))), .inl (3, .inr (.inl (fun i => zl (q 1 i)))), .inl (3, .inr (.inl (fun i => zl (q 2 i)))), .inl (3, .inr (.inl (fun i => zl (q 3 i)))), .inl (3, .inr (.inl (fun i => zl (q 4 i)))), .inl (3, .inr (.inl (fun i => zl (q 5 i)))), .inl (3, .inr (.inl (fun i => zl (q 6 i)))), .inl (3, .inr (.inl (fun i => zl (q 7 i)))), .inl (3, .inr (.inl (f0))), .inl (3, .inr (.inl (f1))), .inl (3, .inr (.inl (f2))), .inl (3, .inr (.inl (t0))), .inl (3, .inr (.inl (t1))), .inl (3, .inr (.inl (t2))), .inl (9, .inr (.inl (out)))] := by
    intro hk hb
    refine hX.run (ft := ftX5) (ct := ctX5) (oc := []) kX5_areNear_ok ftX5_ok ctX5_ok xnoc [2, 37] [13] [] 80 ?_
    refine ⟨fun h => ?_, fun h => ?_⟩
    · have h1 : n = 2 := by
        have h2 : nI n ≤ nI 2 := h
        rw [nI_leI (by omega) (by omega)] at h2
        omega
      exact hX.less (fin (by rw [h1]; exact hb)) ⟨rfl, rfl, trivial⟩
    have h1 : 2 < n := by
      have h2 : ¬ nI n ≤ nI 2 := h
      rw [nI_leI (by omega) (by omega)] at h2
      omega
    refine ⟨fun h => ?_, fun h => ?_⟩
    · have g : q 2 2 = 0 := lce h rfl rfl (ab_jr (hr.2.2 2 2 h1 (by omega)) (by decide)) j0
      have e : cNear n ss q many = false := by
        unfold cNear
        rw [alB_no (P := fun k => !decide (q k 2 = 0)) (k := 2) (by rw [decide_eq_true g]; rfl) h1]; rfl
      rw [e]
      exact ⟨rfl, rfl, rfl⟩
    · have g : ¬ q 2 2 = 0 := lcn h rfl rfl
      exact s3 (by omega) (by unfold alB; rw [hb, decide_eq_false g]; rfl)
  have s1 : 1 ≤ n → alB (fun k => !decide (q k 2 = 0)) 1 = true → X 2 [some (.ref 0), some (.int (nI many)), some (.int (nI 1))] [] [.inr (3, [.ref 1, .ref 2, .ref 3, .ref 4, .ref 5, .ref 6, .int (nI n)]), .inl (8, .inl (mks)), .inl (8, .inr (.inr (.inr (.inr (gmap))))), .inl (3, .inr (.inr (.inr (.inr (fmap))))), .inl (3, .inr (.inr (.inr (.inr (tmap))))), .inl (3, .inr (.inl (we))), .inl (2, .inr (.inl (pa))), .inl (3, .inr (.inl (fun i => zl (q 0 i)))), .inl (3, .inr (.inl (fun i => zl (q 1 i)))), .inl (3, .inr (.inl (fun i => zl (q 2 i)))), .inl (3, .inr (.inl (fun i => zl (q 3 i)))), .inl (3, .inr (.inl (fun i => zl (q 4 i)))), .inl (3, .inr (.inl (fun i => zl (q 5 i)))), .inl (3, .inr (.inl (fun i => zl (q 6 i)))), .inl (3, .inr (.inl (fun i => zl (q 7 i)))), .inl (3, .inr (.inl (f0))), .inl (3, .inr (.inl (f1))), .inl (3, .inr (.inl (f2))), .inl (3, .inr (.inl (t0))), .inl (3, .inr (.inl (t1))), .inl (3, .inr (.inl (t2))), .inl (9, .inr (.inl (out)))] := by
    intro hk hb
    refine hX.run (ft := ftX5) (ct := ctX5) (oc := []) kX5_areNear_ok ftX5_ok ctX5_ok xnoc [2, 37] [13] [] 80 ?_
    refine ⟨fun h => ?_, fun h => ?_⟩
    · have h1 : n = 1 := by
        have h2 : nI n ≤ nI 1 := h
        rw [nI_leI (by omega) (by omega)] at h2
        omega
      exact hX.less (fin (by rw [h1]; exact hb)) ⟨rfl, rfl, trivial⟩
    have h1 : 1 < n := by
      have h2 : ¬ nI n ≤ nI 1 := h
      rw [nI_leI (by omega) (by omega)] at h2
      omega
    refine ⟨fun h => ?_, fun h => ?_⟩
    · have g : q 1 2 = 0 := lce h rfl rfl (ab_jr (hr.2.2 1 2 h1 (by omega)) (by decide)) j0
      have e : cNear n ss q many = false := by
        unfold cNear
        rw [alB_no (P := fun k => !decide (q k 2 = 0)) (k := 1) (by rw [decide_eq_true g]; rfl) h1]; rfl
      rw [e]
      exact ⟨rfl, rfl, rfl⟩
    · have g : ¬ q 1 2 = 0 := lcn h rfl rfl
      exact s2 (by omega) (by unfold alB; rw [hb, decide_eq_false g]; rfl)
  have s0 : 0 ≤ n → alB (fun k => !decide (q k 2 = 0)) 0 = true → X 2 [some (.ref 0), some (.int (nI many)), some (.int (nI 0))] [] [.inr (3, [.ref 1, .ref 2, .ref 3, .ref 4, .ref 5, .ref 6, .int (nI n)]), .inl (8, .inl (mks)), .inl (8, .inr (.inr (.inr (.inr (gmap))))), .inl (3, .inr (.inr (.inr (.inr (fmap))))), .inl (3, .inr (.inr (.inr (.inr (tmap))))), .inl (3, .inr (.inl (we))), .inl (2, .inr (.inl (pa))), .inl (3, .inr (.inl (fun i => zl (q 0 i)))), .inl (3, .inr (.inl (fun i => zl (q 1 i)))), .inl (3, .inr (.inl (fun i => zl (q 2 i)))), .inl (3, .inr (.inl (fun i => zl (q 3 i)))), .inl (3, .inr (.inl (fun i => zl (q 4 i)))), .inl (3, .inr (.inl (fun i => zl (q 5 i)))), .inl (3, .inr (.inl (fun i => zl (q 6 i)))), .inl (3, .inr (.inl (fun i => zl (q 7 i)))), .inl (3, .inr (.inl (f0))), .inl (3, .inr (.inl (f1))), .inl (3, .inr (.inl (f2))), .inl (3, .inr (.inl (t0))), .inl (3, .inr (.inl (t1))), .inl (3, .inr (.inl (t2))), .inl (9, .inr (.inl (out)))] := by
    intro hk hb
    refine hX.run (ft := ftX5) (ct := ctX5) (oc := []) kX5_areNear_ok ftX5_ok ctX5_ok xnoc [2, 37] [13] [] 80 ?_
    refine ⟨fun h => ?_, fun h => ?_⟩
    · have h1 : n = 0 := by
        have h2 : nI n ≤ nI 0 := h
        rw [nI_leI (by omega) (by omega)] at h2
        omega
      exact hX.less (fin (by rw [h1]; exact hb)) ⟨rfl, rfl, trivial⟩
    have h1 : 0 < n := by
      have h2 : ¬ nI n ≤ nI 0 := h
      rw [nI_leI (by omega) (by omega)] at h2
      omega
    refine ⟨fun h => ?_, fun h => ?_⟩
    · have g : q 0 2 = 0 := lce h rfl rfl (ab_jr (hr.2.2 0 2 h1 (by omega)) (by decide)) j0
      have e : cNear n ss q many = false := by
        unfold cNear
        rw [alB_no (P := fun k => !decide (q k 2 = 0)) (k := 0) (by rw [decide_eq_true g]; rfl) h1]; rfl
      rw [e]
      exact ⟨rfl, rfl, rfl⟩
    · have g : ¬ q 0 2 = 0 := lcn h rfl rfl
      exact s1 (by omega) (by unfold alB; rw [hb, decide_eq_false g]; rfl)
  refine hX.run (ft := ftX5) (ct := ctX5) (oc := []) kX5_areNear_ok ftX5_ok ctX5_ok xnoc [2] [] [] 80 ?_
  exact s0 (by omega) rfl
def lik9 (a b x y w : Int64) (i : Nat) : Int64 := if i = 0 then a else if i = 1 then -b else if i = 2 then x else if i = 3 then b else if i = 4 then a else if i = 5 then y else if i = 6 then zl 0 else if i = 7 then zl 0 else w
set_option maxHeartbeats 4000000 in
set_option maxRecDepth 100000 in
theorem k_putLik (l : Launch) (f : Nat → Int64) (a b x y w : Int64) : xM l yX5_putLikeness cX5_putLikeness 11 (none : Option FieldType) rX5_putLikeness [.long a, .long b, .long x, .long y, .long w, .ref 0] [.inl (9, .inr (.inl (f)))] (fun r G => r = none ∧ G = [.inl (9, .inr (.inl (lik9 a b x y w)))]) := by
  refine xM.of (by decide) (Nat.le_of_ble_eq_true rfl) (fun X hX => ?_)
  refine hX.run (ft := ftX5) (ct := ctX5) (oc := []) kX5_putLikeness_ok ftX5_ok ctX5_ok xnoc [] [] [] 80 ?_
  refine hX.callS [0] [] (k_putRow l _ 0 (by omega) _ _ _) yX9_putRow_ok lkX5_103 ssX9_putRow ⟨rfl, rfl, by decide, by decide⟩ (kX5_putLikeness_ok.at 8 rfl) rfl rfl (by decide) ⟨rfl, trivial⟩ rfl (fun _ _ q => by rw [q.2]; rfl) (fun r9 G1 q => ?_)
  obtain ⟨rfl, rfl⟩ := q
  refine hX.run (ft := ftX5) (ct := ctX5) (oc := []) kX5_putLikeness_ok ftX5_ok ctX5_ok xnoc [] [] [] 80 ?_
  refine hX.callS [0] [] (k_putRow l _ 1 (by omega) _ _ _) yX9_putRow_ok lkX5_103 ssX9_putRow ⟨rfl, rfl, by decide, by decide⟩ (kX5_putLikeness_ok.at 18 rfl) rfl rfl (by decide) ⟨rfl, trivial⟩ rfl (fun _ _ q => by rw [q.2]; rfl) (fun r9 G1 q => ?_)
  obtain ⟨rfl, rfl⟩ := q
  refine hX.run (ft := ftX5) (ct := ctX5) (oc := []) kX5_putLikeness_ok ftX5_ok ctX5_ok xnoc [] [] [] 80 ?_
  refine hX.callS [0] [] (k_putRow l _ 2 (by omega) _ _ _) yX9_putRow_ok lkX5_103 ssX9_putRow ⟨rfl, rfl, by decide, by decide⟩ (kX5_putLikeness_ok.at 28 rfl) rfl rfl (by decide) ⟨rfl, trivial⟩ rfl (fun _ _ q => by rw [q.2]; rfl) (fun r9 G1 q => ?_)
  obtain ⟨rfl, rfl⟩ := q
  refine hX.alike (G2 := [.inl (9, .inr (.inl (lik9 a b x y w)))]) ?_ ⟨⟨rfl, fun i hi => ?_⟩, trivial⟩
  · refine hX.run (ft := ftX5) (ct := ctX5) (oc := []) kX5_putLikeness_ok ftX5_ok ctX5_ok xnoc [] [] [] 80 ?_
    exact ⟨rfl, rfl⟩
  · unfold pr3 lik9
    rcases (show i = 0 ∨ i = 1 ∨ i = 2 ∨ i = 3 ∨ i = 4 ∨ i = 5 ∨ i = 6 ∨ i = 7 ∨ i = 8 by omega) with rfl | rfl | rfl | rfl | rfl | rfl | rfl | rfl | rfl <;> rfl
set_option maxHeartbeats 4000000 in
set_option maxRecDepth 100000 in
theorem k_sides0 (l : Launch) (n : Nat) (mks : Nat → Int32) (q : Nat → Nat → Int) (f0 f1 f2 t0 t1 t2 we pa out : Nat → Int64) (hq : ∀ k i, k < 3 → i < 3 → ab (q k i) 500) : xM l yX5_findSides cX5_findSides 3 (some .boolean) rX5_findSides [.ref 0, .int (nI 0), .ref 3] [.inr (3, [.ref 1, .ref 2, .ref 3, .ref 4, .ref 5, .ref 6, .int (nI n)]), .inl (8, .inl (mks)), .inl (8, .inr (.inr (.inr (.inr (gmap))))), .inl (3, .inr (.inr (.inr (.inr (fmap))))), .inl (3, .inr (.inr (.inr (.inr (tmap))))), .inl (3, .inr (.inl (we))), .inl (2, .inr (.inl (pa))), .inl (3, .inr (.inl (fun i => zl (q 0 i)))), .inl (3, .inr (.inl (fun i => zl (q 1 i)))), .inl (3, .inr (.inl (fun i => zl (q 2 i)))), .inl (3, .inr (.inl (fun i => zl (q 3 i)))), .inl (3, .inr (.inl (fun i => zl (q 4 i)))), .inl (3, .inr (.inl (fun i => zl (q 5 i)))), .inl (3, .inr (.inl (fun i => zl (q 6 i)))), .inl (3, .inr (.inl (fun i => zl (q 7 i)))), .inl (3, .inr (.inl (f0))), .inl (3, .inr (.inl (f1))), .inl (3, .inr (.inl (f2))), .inl (3, .inr (.inl (t0))), .inl (3, .inr (.inl (t1))), .inl (3, .inr (.inl (t2))), .inl (9, .inr (.inl (out)))] (fun r G => r = some (.int (bI (!decide (dt3 (crs (q 1) (q 2)) (q 0) = 0)))) ∧ G = [.inr (3, [.ref 1, .ref 2, .ref 3, .ref 4, .ref 5, .ref 6, .int (nI n)]), .inl (8, .inl (mks)), .inl (8, .inr (.inr (.inr (.inr (gmap))))), .inl (3, .inr (.inr (.inr (.inr (fmap))))), .inl (3, .inr (.inr (.inr (.inr (tmap))))), .inl (3, .inr (.inl (we))), .inl (2, .inr (.inl (pa))), .inl (3, .inr (.inl (fun i => zl (q 0 i)))), .inl (3, .inr (.inl (fun i => zl (q 1 i)))), .inl (3, .inr (.inl (fun i => zl (q 2 i)))), .inl (3, .inr (.inl (fun i => zl (q 3 i)))), .inl (3, .inr (.inl (fun i => zl (q 4 i)))), .inl (3, .inr (.inl (fun i => zl (q 5 i)))), .inl (3, .inr (.inl (fun i => zl (q 6 i)))), .inl (3, .inr (.inl (fun i => zl (q 7 i)))), .inl (3, .inr (.inl (fun i => zl (crs (q 1) (q 2) i)))), .inl (3, .inr (.inl (fun i => zl (crs (q 2) (q 0) i)))), .inl (3, .inr (.inl (fun i => zl (crs (q 0) (q 1) i)))), .inl (3, .inr (.inl (t0))), .inl (3, .inr (.inl (t1))), .inl (3, .inr (.inl (t2))), .inl (9, .inr (.inl (out)))]) := by
  refine xM.of (by decide) (Nat.le_of_ble_eq_true rfl) (fun X hX => ?_)
  have j0 : jr 0 := ⟨by omega, by omega⟩
  have jd : jr (dt3 (crs (q 1) (q 2)) (q 0)) := by
    have c := crs_bd (hq 1 · (by omega)) (hq 2 · (by omega))
    exact ab_jr (ab_add (ab_add (ab_mul (c 0) (hq 0 0 (by omega) (by omega))) (ab_mul (c 1) (hq 0 1 (by omega) (by omega)))) (ab_mul (c 2) (hq 0 2 (by omega) (by omega)))) (by decide)
  refine hX.run (ft := ftX5) (ct := ctX5) (oc := []) kX5_findSides_ok ftX5_ok ctX5_ok xnoc [] [1, 9] [] 80 ?_
  refine hX.callS [8, 9, 15] [] (k_wedge l (q 1) (q 2) f0) yX7_wedge_ok lkX5_130 ssX7_wedge ⟨rfl, rfl, by decide, by decide⟩ (kX5_findSides_ok.at 33 rfl) rfl rfl (by decide) ⟨rfl, rfl, rfl, trivial⟩ rfl (fun _ _ q => by rw [q.2]; rfl) (fun r9 G1 q => ?_)
  obtain ⟨rfl, rfl⟩ := q
  refine hX.run (ft := ftX5) (ct := ctX5) (oc := []) kX5_findSides_ok ftX5_ok ctX5_ok xnoc [] [1, 9] [] 80 ?_
  refine hX.callS [9, 7, 16] [] (k_wedge l (q 2) (q 0) f1) yX7_wedge_ok lkX5_130 ssX7_wedge ⟨rfl, rfl, by decide, by decide⟩ (kX5_findSides_ok.at 53 rfl) rfl rfl (by decide) ⟨rfl, rfl, rfl, trivial⟩ rfl (fun _ _ q => by rw [q.2]; rfl) (fun r9 G1 q => ?_)
  obtain ⟨rfl, rfl⟩ := q
  refine hX.run (ft := ftX5) (ct := ctX5) (oc := []) kX5_findSides_ok ftX5_ok ctX5_ok xnoc [] [1, 9] [] 80 ?_
  refine hX.callS [7, 8, 17] [] (k_wedge l (q 0) (q 1) f2) yX7_wedge_ok lkX5_130 ssX7_wedge ⟨rfl, rfl, by decide, by decide⟩ (kX5_findSides_ok.at 73 rfl) rfl rfl (by decide) ⟨rfl, rfl, rfl, trivial⟩ rfl (fun _ _ q => by rw [q.2]; rfl) (fun r9 G1 q => ?_)
  obtain ⟨rfl, rfl⟩ := q
  refine hX.run (ft := ftX5) (ct := ctX5) (oc := []) kX5_findSides_ok ftX5_ok ctX5_ok xnoc [] [] [] 80 ?_
  refine hX.callS [15, 7] [] (k_dot l (crs (q 1) (q 2)) (q 0)) yX7_dot_ok lkX5_116 ssX7_dot ⟨rfl, rfl, by decide, by decide⟩ (kX5_findSides_ok.at 85 rfl) rfl rfl (by decide) ⟨rfl, rfl, trivial⟩ rfl (fun _ _ q => by rw [q.2]) (fun r9 G1 q => ?_)
  obtain ⟨rfl, rfl⟩ := q
  refine hX.run (ft := ftX5) (ct := ctX5) (oc := []) kX5_findSides_ok ftX5_ok ctX5_ok xnoc [] [] [] 80 ?_
  refine ⟨fun h => ?_, fun h => ?_⟩
  · have g : dt3 (crs (q 1) (q 2)) (q 0) = 0 := lce h rfl rfl jd j0
    rw [decide_eq_true g]
    exact ⟨rfl, rfl, rfl⟩
  · have g : ¬ dt3 (crs (q 1) (q 2)) (q 0) = 0 := lcn h rfl rfl
    rw [decide_eq_false g]
    exact ⟨rfl, rfl, rfl⟩
set_option maxHeartbeats 4000000 in
set_option maxRecDepth 100000 in
theorem k_sides3 (l : Launch) (n : Nat) (mks : Nat → Int32) (q : Nat → Nat → Int) (f0 f1 f2 t0 t1 t2 we pa out : Nat → Int64) (hq : ∀ k i, k < 6 → i < 3 → ab (q k i) 500) : xM l yX5_findSides cX5_findSides 3 (some .boolean) rX5_findSides [.ref 0, .int (nI 3), .ref 4] [.inr (3, [.ref 1, .ref 2, .ref 3, .ref 4, .ref 5, .ref 6, .int (nI n)]), .inl (8, .inl (mks)), .inl (8, .inr (.inr (.inr (.inr (gmap))))), .inl (3, .inr (.inr (.inr (.inr (fmap))))), .inl (3, .inr (.inr (.inr (.inr (tmap))))), .inl (3, .inr (.inl (we))), .inl (2, .inr (.inl (pa))), .inl (3, .inr (.inl (fun i => zl (q 0 i)))), .inl (3, .inr (.inl (fun i => zl (q 1 i)))), .inl (3, .inr (.inl (fun i => zl (q 2 i)))), .inl (3, .inr (.inl (fun i => zl (q 3 i)))), .inl (3, .inr (.inl (fun i => zl (q 4 i)))), .inl (3, .inr (.inl (fun i => zl (q 5 i)))), .inl (3, .inr (.inl (fun i => zl (q 6 i)))), .inl (3, .inr (.inl (fun i => zl (q 7 i)))), .inl (3, .inr (.inl (f0))), .inl (3, .inr (.inl (f1))), .inl (3, .inr (.inl (f2))), .inl (3, .inr (.inl (t0))), .inl (3, .inr (.inl (t1))), .inl (3, .inr (.inl (t2))), .inl (9, .inr (.inl (out)))] (fun r G => r = some (.int (bI (!decide (dt3 (crs (q 4) (q 5)) (q 3) = 0)))) ∧ G = [.inr (3, [.ref 1, .ref 2, .ref 3, .ref 4, .ref 5, .ref 6, .int (nI n)]), .inl (8, .inl (mks)), .inl (8, .inr (.inr (.inr (.inr (gmap))))), .inl (3, .inr (.inr (.inr (.inr (fmap))))), .inl (3, .inr (.inr (.inr (.inr (tmap))))), .inl (3, .inr (.inl (we))), .inl (2, .inr (.inl (pa))), .inl (3, .inr (.inl (fun i => zl (q 0 i)))), .inl (3, .inr (.inl (fun i => zl (q 1 i)))), .inl (3, .inr (.inl (fun i => zl (q 2 i)))), .inl (3, .inr (.inl (fun i => zl (q 3 i)))), .inl (3, .inr (.inl (fun i => zl (q 4 i)))), .inl (3, .inr (.inl (fun i => zl (q 5 i)))), .inl (3, .inr (.inl (fun i => zl (q 6 i)))), .inl (3, .inr (.inl (fun i => zl (q 7 i)))), .inl (3, .inr (.inl (f0))), .inl (3, .inr (.inl (f1))), .inl (3, .inr (.inl (f2))), .inl (3, .inr (.inl (fun i => zl (crs (q 4) (q 5) i)))), .inl (3, .inr (.inl (fun i => zl (crs (q 5) (q 3) i)))), .inl (3, .inr (.inl (fun i => zl (crs (q 3) (q 4) i)))), .inl (9, .inr (.inl (out)))]) := by
  refine xM.of (by decide) (Nat.le_of_ble_eq_true rfl) (fun X hX => ?_)
  have j0 : jr 0 := ⟨by omega, by omega⟩
  have jd : jr (dt3 (crs (q 4) (q 5)) (q 3)) := by
    have c := crs_bd (hq 4 · (by omega)) (hq 5 · (by omega))
    exact ab_jr (ab_add (ab_add (ab_mul (c 0) (hq 3 0 (by omega) (by omega))) (ab_mul (c 1) (hq 3 1 (by omega) (by omega)))) (ab_mul (c 2) (hq 3 2 (by omega) (by omega)))) (by decide)
  refine hX.run (ft := ftX5) (ct := ctX5) (oc := []) kX5_findSides_ok ftX5_ok ctX5_ok xnoc [] [1, 9] [] 80 ?_
  refine hX.callS [11, 12, 18] [] (k_wedge l (q 4) (q 5) t0) yX7_wedge_ok lkX5_130 ssX7_wedge ⟨rfl, rfl, by decide, by decide⟩ (kX5_findSides_ok.at 33 rfl) rfl rfl (by decide) ⟨rfl, rfl, rfl, trivial⟩ rfl (fun _ _ q => by rw [q.2]; rfl) (fun r9 G1 q => ?_)
  obtain ⟨rfl, rfl⟩ := q
  refine hX.run (ft := ftX5) (ct := ctX5) (oc := []) kX5_findSides_ok ftX5_ok ctX5_ok xnoc [] [1, 9] [] 80 ?_
  refine hX.callS [12, 10, 19] [] (k_wedge l (q 5) (q 3) t1) yX7_wedge_ok lkX5_130 ssX7_wedge ⟨rfl, rfl, by decide, by decide⟩ (kX5_findSides_ok.at 53 rfl) rfl rfl (by decide) ⟨rfl, rfl, rfl, trivial⟩ rfl (fun _ _ q => by rw [q.2]; rfl) (fun r9 G1 q => ?_)
  obtain ⟨rfl, rfl⟩ := q
  refine hX.run (ft := ftX5) (ct := ctX5) (oc := []) kX5_findSides_ok ftX5_ok ctX5_ok xnoc [] [1, 9] [] 80 ?_
  refine hX.callS [10, 11, 20] [] (k_wedge l (q 3) (q 4) t2) yX7_wedge_ok lkX5_130 ssX7_wedge ⟨rfl, rfl, by decide, by decide⟩ (kX5_findSides_ok.at 73 rfl) rfl rfl (by decide) ⟨rfl, rfl, rfl, trivial⟩ rfl (fun _ _ q => by rw [q.2]; rfl) (fun r9 G1 q => ?_)
  obtain ⟨rfl, rfl⟩ := q
  refine hX.run (ft := ftX5) (ct := ctX5) (oc := []) kX5_findSides_ok ftX5_ok ctX5_ok xnoc [] [] [] 80 ?_
  refine hX.callS [18, 10] [] (k_dot l (crs (q 4) (q 5)) (q 3)) yX7_dot_ok lkX5_116 ssX7_dot ⟨rfl, rfl, by decide, by decide⟩ (kX5_findSides_ok.at 85 rfl) rfl rfl (by decide) ⟨rfl, rfl, trivial⟩ rfl (fun _ _ q => by rw [q.2]) (fun r9 G1 q => ?_)
  obtain ⟨rfl, rfl⟩ := q
  refine hX.run (ft := ftX5) (ct := ctX5) (oc := []) kX5_findSides_ok ftX5_ok ctX5_ok xnoc [] [] [] 80 ?_
  refine ⟨fun h => ?_, fun h => ?_⟩
  · have g : dt3 (crs (q 4) (q 5)) (q 3) = 0 := lce h rfl rfl jd j0
    rw [decide_eq_true g]
    exact ⟨rfl, rfl, rfl⟩
  · have g : ¬ dt3 (crs (q 4) (q 5)) (q 3) = 0 := lcn h rfl rfl
    rw [decide_eq_false g]
    exact ⟨rfl, rfl, rfl⟩
set_option maxHeartbeats 4000000 in
set_option maxRecDepth 100000 in
theorem k_sides4 (l : Launch) (n : Nat) (mks : Nat → Int32) (q : Nat → Nat → Int) (f0 f1 f2 t0 t1 t2 we pa out : Nat → Int64) (hq : ∀ k i, k < 7 → i < 3 → ab (q k i) 500) : xM l yX5_findSides cX5_findSides 3 (some .boolean) rX5_findSides [.ref 0, .int (nI 4), .ref 4] [.inr (3, [.ref 1, .ref 2, .ref 3, .ref 4, .ref 5, .ref 6, .int (nI n)]), .inl (8, .inl (mks)), .inl (8, .inr (.inr (.inr (.inr (gmap))))), .inl (3, .inr (.inr (.inr (.inr (fmap))))), .inl (3, .inr (.inr (.inr (.inr (tmap))))), .inl (3, .inr (.inl (we))), .inl (2, .inr (.inl (pa))), .inl (3, .inr (.inl (fun i => zl (q 0 i)))), .inl (3, .inr (.inl (fun i => zl (q 1 i)))), .inl (3, .inr (.inl (fun i => zl (q 2 i)))), .inl (3, .inr (.inl (fun i => zl (q 3 i)))), .inl (3, .inr (.inl (fun i => zl (q 4 i)))), .inl (3, .inr (.inl (fun i => zl (q 5 i)))), .inl (3, .inr (.inl (fun i => zl (q 6 i)))), .inl (3, .inr (.inl (fun i => zl (q 7 i)))), .inl (3, .inr (.inl (f0))), .inl (3, .inr (.inl (f1))), .inl (3, .inr (.inl (f2))), .inl (3, .inr (.inl (t0))), .inl (3, .inr (.inl (t1))), .inl (3, .inr (.inl (t2))), .inl (9, .inr (.inl (out)))] (fun r G => r = some (.int (bI (!decide (dt3 (crs (q 5) (q 6)) (q 4) = 0)))) ∧ G = [.inr (3, [.ref 1, .ref 2, .ref 3, .ref 4, .ref 5, .ref 6, .int (nI n)]), .inl (8, .inl (mks)), .inl (8, .inr (.inr (.inr (.inr (gmap))))), .inl (3, .inr (.inr (.inr (.inr (fmap))))), .inl (3, .inr (.inr (.inr (.inr (tmap))))), .inl (3, .inr (.inl (we))), .inl (2, .inr (.inl (pa))), .inl (3, .inr (.inl (fun i => zl (q 0 i)))), .inl (3, .inr (.inl (fun i => zl (q 1 i)))), .inl (3, .inr (.inl (fun i => zl (q 2 i)))), .inl (3, .inr (.inl (fun i => zl (q 3 i)))), .inl (3, .inr (.inl (fun i => zl (q 4 i)))), .inl (3, .inr (.inl (fun i => zl (q 5 i)))), .inl (3, .inr (.inl (fun i => zl (q 6 i)))), .inl (3, .inr (.inl (fun i => zl (q 7 i)))), .inl (3, .inr (.inl (f0))), .inl (3, .inr (.inl (f1))), .inl (3, .inr (.inl (f2))), .inl (3, .inr (.inl (fun i => zl (crs (q 5) (q 6) i)))), .inl (3, .inr (.inl (fun i => zl (crs (q 6) (q 4) i)))), .inl (3, .inr (.inl (fun i => zl (crs (q 4) (q 5) i)))), .inl (9, .inr (.inl (out)))]) := by
  refine xM.of (by decide) (Nat.le_of_ble_eq_true rfl) (fun X hX => ?_)
  have j0 : jr 0 := ⟨by omega, by omega⟩
  have jd : jr (dt3 (crs (q 5) (q 6)) (q 4)) := by
    have c := crs_bd (hq 5 · (by omega)) (hq 6 · (by omega))
    exact ab_jr (ab_add (ab_add (ab_mul (c 0) (hq 4 0 (by omega) (by omega))) (ab_mul (c 1) (hq 4 1 (by omega) (by omega)))) (ab_mul (c 2) (hq 4 2 (by omega) (by omega)))) (by decide)
  refine hX.run (ft := ftX5) (ct := ctX5) (oc := []) kX5_findSides_ok ftX5_ok ctX5_ok xnoc [] [1, 9] [] 80 ?_
  refine hX.callS [12, 13, 18] [] (k_wedge l (q 5) (q 6) t0) yX7_wedge_ok lkX5_130 ssX7_wedge ⟨rfl, rfl, by decide, by decide⟩ (kX5_findSides_ok.at 33 rfl) rfl rfl (by decide) ⟨rfl, rfl, rfl, trivial⟩ rfl (fun _ _ q => by rw [q.2]; rfl) (fun r9 G1 q => ?_)
  obtain ⟨rfl, rfl⟩ := q
  refine hX.run (ft := ftX5) (ct := ctX5) (oc := []) kX5_findSides_ok ftX5_ok ctX5_ok xnoc [] [1, 9] [] 80 ?_
  refine hX.callS [13, 11, 19] [] (k_wedge l (q 6) (q 4) t1) yX7_wedge_ok lkX5_130 ssX7_wedge ⟨rfl, rfl, by decide, by decide⟩ (kX5_findSides_ok.at 53 rfl) rfl rfl (by decide) ⟨rfl, rfl, rfl, trivial⟩ rfl (fun _ _ q => by rw [q.2]; rfl) (fun r9 G1 q => ?_)
  obtain ⟨rfl, rfl⟩ := q
  refine hX.run (ft := ftX5) (ct := ctX5) (oc := []) kX5_findSides_ok ftX5_ok ctX5_ok xnoc [] [1, 9] [] 80 ?_
  refine hX.callS [11, 12, 20] [] (k_wedge l (q 4) (q 5) t2) yX7_wedge_ok lkX5_130 ssX7_wedge ⟨rfl, rfl, by decide, by decide⟩ (kX5_findSides_ok.at 73 rfl) rfl rfl (by decide) ⟨rfl, rfl, rfl, trivial⟩ rfl (fun _ _ q => by rw [q.2]; rfl) (fun r9 G1 q => ?_)
  obtain ⟨rfl, rfl⟩ := q
  refine hX.run (ft := ftX5) (ct := ctX5) (oc := []) kX5_findSides_ok ftX5_ok ctX5_ok xnoc [] [] [] 80 ?_
  refine hX.callS [18, 11] [] (k_dot l (crs (q 5) (q 6)) (q 4)) yX7_dot_ok lkX5_116 ssX7_dot ⟨rfl, rfl, by decide, by decide⟩ (kX5_findSides_ok.at 85 rfl) rfl rfl (by decide) ⟨rfl, rfl, trivial⟩ rfl (fun _ _ q => by rw [q.2]) (fun r9 G1 q => ?_)
  obtain ⟨rfl, rfl⟩ := q
  refine hX.run (ft := ftX5) (ct := ctX5) (oc := []) kX5_findSides_ok ftX5_ok ctX5_ok xnoc [] [] [] 80 ?_
  refine ⟨fun h => ?_, fun h => ?_⟩
  · have g : dt3 (crs (q 5) (q 6)) (q 4) = 0 := lce h rfl rfl jd j0
    rw [decide_eq_true g]
    exact ⟨rfl, rfl, rfl⟩
  · have g : ¬ dt3 (crs (q 5) (q 6)) (q 4) = 0 := lcn h rfl rfl
    rw [decide_eq_false g]
    exact ⟨rfl, rfl, rfl⟩
def wgt (wt : Nat → Int) (q F : Nat → Nat → Int) (s : Nat) (n : Nat) : Int := wt 0 * q s (n / 3) * F 0 (n % 3) + wt 1 * q (s + 1) (n / 3) * F 1 (n % 3) + wt 2 * q (s + 2) (n / 3) * F 2 (n % 3)
set_option maxHeartbeats 4000000 in
set_option maxRecDepth 100000 in
theorem k_weighted3 (l : Launch) (n : Nat) (mks : Nat → Int32) (q F : Nat → Nat → Int) (wt : Nat → Int) (t0 t1 t2 pa out : Nat → Int64) : xM l yX5_putWeighted cX5_putWeighted 8 (none : Option FieldType) rX5_putWeighted [.ref 0, .int (nI 3), .ref 21] [.inr (3, [.ref 1, .ref 2, .ref 3, .ref 4, .ref 5, .ref 6, .int (nI n)]), .inl (8, .inl (mks)), .inl (8, .inr (.inr (.inr (.inr (gmap))))), .inl (3, .inr (.inr (.inr (.inr (fmap))))), .inl (3, .inr (.inr (.inr (.inr (tmap))))), .inl (3, .inr (.inl (fun i => zl (wt i)))), .inl (2, .inr (.inl (pa))), .inl (3, .inr (.inl (fun i => zl (q 0 i)))), .inl (3, .inr (.inl (fun i => zl (q 1 i)))), .inl (3, .inr (.inl (fun i => zl (q 2 i)))), .inl (3, .inr (.inl (fun i => zl (q 3 i)))), .inl (3, .inr (.inl (fun i => zl (q 4 i)))), .inl (3, .inr (.inl (fun i => zl (q 5 i)))), .inl (3, .inr (.inl (fun i => zl (q 6 i)))), .inl (3, .inr (.inl (fun i => zl (q 7 i)))), .inl (3, .inr (.inl (fun i => zl (F 0 i)))), .inl (3, .inr (.inl (fun i => zl (F 1 i)))), .inl (3, .inr (.inl (fun i => zl (F 2 i)))), .inl (3, .inr (.inl (t0))), .inl (3, .inr (.inl (t1))), .inl (3, .inr (.inl (t2))), .inl (9, .inr (.inl (out)))] (fun r G => r = none ∧ G = [.inr (3, [.ref 1, .ref 2, .ref 3, .ref 4, .ref 5, .ref 6, .int (nI n)]), .inl (8, .inl (mks)), .inl (8, .inr (.inr (.inr (.inr (gmap))))), .inl (3, .inr (.inr (.inr (.inr (fmap))))), .inl (3, .inr (.inr (.inr (.inr (tmap))))), .inl (3, .inr (.inl (fun i => zl (wt i)))), .inl (2, .inr (.inl (pa))), .inl (3, .inr (.inl (fun i => zl (q 0 i)))), .inl (3, .inr (.inl (fun i => zl (q 1 i)))), .inl (3, .inr (.inl (fun i => zl (q 2 i)))), .inl (3, .inr (.inl (fun i => zl (q 3 i)))), .inl (3, .inr (.inl (fun i => zl (q 4 i)))), .inl (3, .inr (.inl (fun i => zl (q 5 i)))), .inl (3, .inr (.inl (fun i => zl (q 6 i)))), .inl (3, .inr (.inl (fun i => zl (q 7 i)))), .inl (3, .inr (.inl (fun i => zl (F 0 i)))), .inl (3, .inr (.inl (fun i => zl (F 1 i)))), .inl (3, .inr (.inl (fun i => zl (F 2 i)))), .inl (3, .inr (.inl (t0))), .inl (3, .inr (.inl (t1))), .inl (3, .inr (.inl (t2))), .inl (9, .inr (.inl (fun i => zl (wgt wt q F 3 i))))]) := by
  refine xM.of (by decide) (Nat.le_of_ble_eq_true rfl) (fun X hX => ?_)
  refine hX.run (ft := ftX5) (ct := ctX5) (oc := []) kX5_putWeighted_ok ftX5_ok ctX5_ok xnoc [104] [1, 9, 17, 26, 38] [] 2000 ?_
  refine hX.alike (G2 := [.inr (3, [.ref 1, .ref 2, .ref 3, .ref 4, .ref 5, .ref 6, .int (nI n)]), .inl (8, .inl (mks)), .inl (8, .inr (.inr (.inr (.inr (gmap))))), .inl (3, .inr (.inr (.inr (.inr (fmap))))), .inl (3, .inr (.inr (.inr (.inr (tmap))))), .inl (3, .inr (.inl (fun i => zl (wt i)))), .inl (2, .inr (.inl (pa))), .inl (3, .inr (.inl (fun i => zl (q 0 i)))), .inl (3, .inr (.inl (fun i => zl (q 1 i)))), .inl (3, .inr (.inl (fun i => zl (q 2 i)))), .inl (3, .inr (.inl (fun i => zl (q 3 i)))), .inl (3, .inr (.inl (fun i => zl (q 4 i)))), .inl (3, .inr (.inl (fun i => zl (q 5 i)))), .inl (3, .inr (.inl (fun i => zl (q 6 i)))), .inl (3, .inr (.inl (fun i => zl (q 7 i)))), .inl (3, .inr (.inl (fun i => zl (F 0 i)))), .inl (3, .inr (.inl (fun i => zl (F 1 i)))), .inl (3, .inr (.inl (fun i => zl (F 2 i)))), .inl (3, .inr (.inl (t0))), .inl (3, .inr (.inl (t1))), .inl (3, .inr (.inl (t2))), .inl (9, .inr (.inl (fun i => zl (wgt wt q F 3 i))))]) ?_ ⟨xsame_rf _, xsame_rf _, xsame_rf _, xsame_rf _, xsame_rf _, xsame_rf _, xsame_rf _, xsame_rf _, xsame_rf _, xsame_rf _, xsame_rf _, xsame_rf _, xsame_rf _, xsame_rf _, xsame_rf _, xsame_rf _, xsame_rf _, xsame_rf _, xsame_rf _, xsame_rf _, xsame_rf _, ⟨rfl, fun i hi => ?_⟩, trivial⟩
  · refine hX.run (ft := ftX5) (ct := ctX5) (oc := []) kX5_putWeighted_ok ftX5_ok ctX5_ok xnoc [] [] [] 80 ?_
    exact ⟨rfl, rfl⟩
  · unfold vp_updL
    have e0 : ∀ a : Int64, Int64.ofNat ((0 : Fin 2) : Nat) + a = a := fun a => by
      have : Int64.ofNat ((0 : Fin 2) : Nat) = 0 := rfl
      rw [this, Int64.zero_add]
    simp only [e0, zl_mul, zl_add]
    rcases (show i = 0 ∨ i = 1 ∨ i = 2 ∨ i = 3 ∨ i = 4 ∨ i = 5 ∨ i = 6 ∨ i = 7 ∨ i = 8 by omega) with rfl | rfl | rfl | rfl | rfl | rfl | rfl | rfl | rfl <;> rfl
set_option maxHeartbeats 4000000 in
set_option maxRecDepth 100000 in
theorem k_weighted4 (l : Launch) (n : Nat) (mks : Nat → Int32) (q F : Nat → Nat → Int) (wt : Nat → Int) (t0 t1 t2 pa out : Nat → Int64) : xM l yX5_putWeighted cX5_putWeighted 8 (none : Option FieldType) rX5_putWeighted [.ref 0, .int (nI 4), .ref 21] [.inr (3, [.ref 1, .ref 2, .ref 3, .ref 4, .ref 5, .ref 6, .int (nI n)]), .inl (8, .inl (mks)), .inl (8, .inr (.inr (.inr (.inr (gmap))))), .inl (3, .inr (.inr (.inr (.inr (fmap))))), .inl (3, .inr (.inr (.inr (.inr (tmap))))), .inl (3, .inr (.inl (fun i => zl (wt i)))), .inl (2, .inr (.inl (pa))), .inl (3, .inr (.inl (fun i => zl (q 0 i)))), .inl (3, .inr (.inl (fun i => zl (q 1 i)))), .inl (3, .inr (.inl (fun i => zl (q 2 i)))), .inl (3, .inr (.inl (fun i => zl (q 3 i)))), .inl (3, .inr (.inl (fun i => zl (q 4 i)))), .inl (3, .inr (.inl (fun i => zl (q 5 i)))), .inl (3, .inr (.inl (fun i => zl (q 6 i)))), .inl (3, .inr (.inl (fun i => zl (q 7 i)))), .inl (3, .inr (.inl (fun i => zl (F 0 i)))), .inl (3, .inr (.inl (fun i => zl (F 1 i)))), .inl (3, .inr (.inl (fun i => zl (F 2 i)))), .inl (3, .inr (.inl (t0))), .inl (3, .inr (.inl (t1))), .inl (3, .inr (.inl (t2))), .inl (9, .inr (.inl (out)))] (fun r G => r = none ∧ G = [.inr (3, [.ref 1, .ref 2, .ref 3, .ref 4, .ref 5, .ref 6, .int (nI n)]), .inl (8, .inl (mks)), .inl (8, .inr (.inr (.inr (.inr (gmap))))), .inl (3, .inr (.inr (.inr (.inr (fmap))))), .inl (3, .inr (.inr (.inr (.inr (tmap))))), .inl (3, .inr (.inl (fun i => zl (wt i)))), .inl (2, .inr (.inl (pa))), .inl (3, .inr (.inl (fun i => zl (q 0 i)))), .inl (3, .inr (.inl (fun i => zl (q 1 i)))), .inl (3, .inr (.inl (fun i => zl (q 2 i)))), .inl (3, .inr (.inl (fun i => zl (q 3 i)))), .inl (3, .inr (.inl (fun i => zl (q 4 i)))), .inl (3, .inr (.inl (fun i => zl (q 5 i)))), .inl (3, .inr (.inl (fun i => zl (q 6 i)))), .inl (3, .inr (.inl (fun i => zl (q 7 i)))), .inl (3, .inr (.inl (fun i => zl (F 0 i)))), .inl (3, .inr (.inl (fun i => zl (F 1 i)))), .inl (3, .inr (.inl (fun i => zl (F 2 i)))), .inl (3, .inr (.inl (t0))), .inl (3, .inr (.inl (t1))), .inl (3, .inr (.inl (t2))), .inl (9, .inr (.inl (fun i => zl (wgt wt q F 4 i))))]) := by
  refine xM.of (by decide) (Nat.le_of_ble_eq_true rfl) (fun X hX => ?_)
  refine hX.run (ft := ftX5) (ct := ctX5) (oc := []) kX5_putWeighted_ok ftX5_ok ctX5_ok xnoc [104] [1, 9, 17, 26, 38] [] 2000 ?_
  refine hX.alike (G2 := [.inr (3, [.ref 1, .ref 2, .ref 3, .ref 4, .ref 5, .ref 6, .int (nI n)]), .inl (8, .inl (mks)), .inl (8, .inr (.inr (.inr (.inr (gmap))))), .inl (3, .inr (.inr (.inr (.inr (fmap))))), .inl (3, .inr (.inr (.inr (.inr (tmap))))), .inl (3, .inr (.inl (fun i => zl (wt i)))), .inl (2, .inr (.inl (pa))), .inl (3, .inr (.inl (fun i => zl (q 0 i)))), .inl (3, .inr (.inl (fun i => zl (q 1 i)))), .inl (3, .inr (.inl (fun i => zl (q 2 i)))), .inl (3, .inr (.inl (fun i => zl (q 3 i)))), .inl (3, .inr (.inl (fun i => zl (q 4 i)))), .inl (3, .inr (.inl (fun i => zl (q 5 i)))), .inl (3, .inr (.inl (fun i => zl (q 6 i)))), .inl (3, .inr (.inl (fun i => zl (q 7 i)))), .inl (3, .inr (.inl (fun i => zl (F 0 i)))), .inl (3, .inr (.inl (fun i => zl (F 1 i)))), .inl (3, .inr (.inl (fun i => zl (F 2 i)))), .inl (3, .inr (.inl (t0))), .inl (3, .inr (.inl (t1))), .inl (3, .inr (.inl (t2))), .inl (9, .inr (.inl (fun i => zl (wgt wt q F 4 i))))]) ?_ ⟨xsame_rf _, xsame_rf _, xsame_rf _, xsame_rf _, xsame_rf _, xsame_rf _, xsame_rf _, xsame_rf _, xsame_rf _, xsame_rf _, xsame_rf _, xsame_rf _, xsame_rf _, xsame_rf _, xsame_rf _, xsame_rf _, xsame_rf _, xsame_rf _, xsame_rf _, xsame_rf _, xsame_rf _, ⟨rfl, fun i hi => ?_⟩, trivial⟩
  · refine hX.run (ft := ftX5) (ct := ctX5) (oc := []) kX5_putWeighted_ok ftX5_ok ctX5_ok xnoc [] [] [] 80 ?_
    exact ⟨rfl, rfl⟩
  · unfold vp_updL
    have e0 : ∀ a : Int64, Int64.ofNat ((0 : Fin 2) : Nat) + a = a := fun a => by
      have : Int64.ofNat ((0 : Fin 2) : Nat) = 0 := rfl
      rw [this, Int64.zero_add]
    simp only [e0, zl_mul, zl_add]
    rcases (show i = 0 ∨ i = 1 ∨ i = 2 ∨ i = 3 ∨ i = 4 ∨ i = 5 ∨ i = 6 ∨ i = 7 ∨ i = 8 by omega) with rfl | rfl | rfl | rfl | rfl | rfl | rfl | rfl | rfl <;> rfl
