theorem lce {x y : Int64} {a b : Int} (h : lg_cmp x y = 0) (hx : x = zl a) (hy : y = zl b) (ja : jr a) (jb : jr b) : a = b := by
  have q := lgc_eq.mp h
  rw [hx, hy] at q
  exact (zl_eq ja jb).mp q
theorem lcn {x y : Int64} {a b : Int} (h : ¬ lg_cmp x y = 0) (hx : x = zl a) (hy : y = zl b) : ¬ a = b := by
  intro q
  apply h
  rw [lgc_eq, hx, hy, q]
def flatv (x : Nat → Int) : Nat :=
  if x 0 = x 4 ∧ x 1 = - x 3 then (if x 1 = 0 then (if x 0 = x 8 then 1 else if x 0 = - x 8 then 2 else 4) else if x 0 * x 0 + x 1 * x 1 = x 8 * x 8 then 3 else 5)
  else if x 0 = - x 4 ∧ x 1 = x 3 then (if ¬ x 0 * x 0 + x 1 * x 1 = x 8 * x 8 then 8 else if all9 (mul9 x x) then 6 else 7)
  else if (rkv (lss x (x 8))).1 = 1 ∧ ((rkv (lss x (x 8))).2 0 ≠ 0 ∨ (rkv (lss x (x 8))).2 1 ≠ 0) then (if x 0 * x 4 - x 1 * x 3 = x 8 * x 8 then 9 else 10)
  else if x 0 * x 4 - x 1 * x 3 = x 8 * x 8 ∨ x 0 * x 4 - x 1 * x 3 = - x 8 * x 8 then 11 else 12
/-- which column meets the row first -/
def col1 (r : Nat → Int) : Nat := if ¬ r 0 = 0 then 0 else if ¬ r 1 = 0 then 1 else 2
def farw (x : Nat → Int) (z : Int) : Nat := if (rkv (lss x z)).2 0 * lss x z (col1 (rkv (lss x z)).2) + (rkv (lss x z)).2 1 * lss x z (3 + col1 (rkv (lss x z)).2) + (rkv (lss x z)).2 2 * lss x z (6 + col1 (rkv (lss x z)).2) = 0 then 13 else if all9 (mul9 x x) then 14 else 15
def farv (x : Nat → Int) : Nat → Int → Nat
  | 0, _ => 16
  | d + 1, z => if (rkv (lss x z)).1 = 1 then farw x z else farv x d (z + 1)
def kdv (x : Nat → Int) : Nat := if all9 x then 0 else if x 6 = 0 ∧ x 7 = 0 then flatv x else farv x 3001 (-1500)
set_option maxHeartbeats 4000000 in
set_option maxRecDepth 100000 in
theorem c_flatKind (l : Launch) (n nm ng ns ngr : Int32) (pp av be : Int64) (so ro tb gv sd gr : Nat → Int32) (row table two : Nat → Int64) (x : Nat → Int) (hx : ∀ i, i < 9 → ab (x i) 500) : xM l yX11_flatKind cX11_flatKind 14 (some .int) rX11_flatKind [.ref 0] (GR n nm ng ns ngr pp av be so ro tb gv sd gr row table (fun i => zl (x i)) two) (fun r G => ∃ row' two', r = some (.int (nI (flatv x))) ∧ G = GR n nm ng ns ngr pp av be so ro tb gv sd gr row' table (fun i => zl (x i)) two') := by
  refine xM.of (by decide) (Nat.le_of_ble_eq_true rfl) (fun X hX => ?_)
  have j0 : jr 0 := ⟨by omega, by omega⟩
  have j5 : ∀ i, i < 9 → jr (x i) := fun i hi => ab_jr (hx i hi) (by decide)
  have jn : ∀ i, i < 9 → jr (- x i) := fun i hi => by have := hx i hi; exact ⟨by have := this.2; omega, by have := this.1; omega⟩
  have jq : ∀ i k, i < 9 → k < 9 → ab (x i * x k) 250000 := fun i k hi hk => ab_le (ab_mul (hx i hi) (hx k hk)) (by decide)
  have jg : jr (x 8 * x 8) := ab_jr (jq 8 8 (by omega) (by omega)) (by decide)
  have jm : jr (- x 8 * x 8) := by
    have h := jq 8 8 (by omega) (by omega)
    rw [Int.neg_mul]
    exact ⟨by have := h.2; omega, by have := h.1; omega⟩
  have js : jr (x 0 * x 0 + x 1 * x 1) := ab_jr (ab_add (jq 0 0 (by omega) (by omega)) (jq 1 1 (by omega) (by omega))) (by decide)
  have ja : jr (x 0 * x 4 - x 1 * x 3) := ab_jr (ab_sub (jq 0 4 (by omega) (by omega)) (jq 1 3 (by omega) (by omega))) (by decide)
  have fin : ∀ (k : Nat) (row2 two2 : Nat → Int64), flatv x = k → ∃ row' two', some (Value.int (nI k)) = some (.int (nI (flatv x))) ∧ (GR n nm ng ns ngr pp av be so ro tb gv sd gr row2 table (fun i => zl (x i)) two2) = GR n nm ng ns ngr pp av be so ro tb gv sd gr row' table (fun i => zl (x i)) two' := by
    intro k row2 two2 h
    rw [h]
    exact ⟨_, _, rfl, rfl⟩
  have stays : ∀ (row2 two2 : Nat → Int64) (b : Nat), b = 0 ∨ b = 1 → ¬ (x 0 = x 4 ∧ x 1 = - x 3) → ¬ (x 0 = - x 4 ∧ x 1 = x 3) → (b = 1 ↔ ((rkv (lss x (x 8))).1 = 1 ∧ ((rkv (lss x (x 8))).2 0 ≠ 0 ∨ (rkv (lss x (x 8))).2 1 ≠ 0))) → X 216 [some (.ref 0), some (.long (zl (x 0))), none, some (.long (zl (x 1))), none, some (.long (zl (x 3))), none, some (.long (zl (x 4))), none, some (.long (zl (x 8))), none, some (.long (zl (x 0 * x 4 - x 1 * x 3))), none, some (.int (nI b))] [] (GR n nm ng ns ngr pp av be so ro tb gv sd gr row2 table (fun i => zl (x i)) two2) := by
    intro row2 two2 b hb n1 n2 hst
    rcases hb with rfl | rfl
    · have n3 : ¬ ((rkv (lss x (x 8))).1 = 1 ∧ ((rkv (lss x (x 8))).2 0 ≠ 0 ∨ (rkv (lss x (x 8))).2 1 ≠ 0)) := fun q => by have := hst.mpr q; omega
      refine hX.run (oc := []) kX11_flatKind_ok ftX11_ok ctX11_ok xnoc [] [218] [] 90 ?_
      refine ⟨fun h => ?_, fun h => ?_⟩
      · have g : x 0 * x 4 - x 1 * x 3 = x 8 * x 8 := lce h rfl (by simp only [zl_mul, zl_add, zl_sub, zl_neg]) ja jg
        exact fin 11 row2 two2 (by unfold flatv; rw [if_neg n1, if_neg n2, if_neg n3, if_pos (Or.inl g)])
      have g1 : ¬ x 0 * x 4 - x 1 * x 3 = x 8 * x 8 := lcn h rfl (by simp only [zl_mul, zl_add, zl_sub, zl_neg])
      refine ⟨fun h => ?_, fun h => ?_⟩
      · have g : x 0 * x 4 - x 1 * x 3 = - x 8 * x 8 := lce h rfl (by simp only [zl_mul, zl_add, zl_sub, zl_neg]) ja jm
        exact fin 11 row2 two2 (by unfold flatv; rw [if_neg n1, if_neg n2, if_neg n3, if_pos (Or.inr g)])
      · have g : ¬ x 0 * x 4 - x 1 * x 3 = - x 8 * x 8 := lcn h rfl (by simp only [zl_mul, zl_add, zl_sub, zl_neg])
        exact fin 12 row2 two2 (by unfold flatv; rw [if_neg n1, if_neg n2, if_neg n3, if_neg (fun q => q.elim g1 g)])
    · have n3 := hst.mp rfl
      refine hX.run (oc := []) kX11_flatKind_ok ftX11_ok ctX11_ok xnoc [] [218] [] 90 ?_
      refine ⟨fun h => ?_, fun h => ?_⟩
      · have g : x 0 * x 4 - x 1 * x 3 = x 8 * x 8 := lce h rfl (by simp only [zl_mul, zl_add, zl_sub, zl_neg]) ja jg
        exact fin 9 row2 two2 (by unfold flatv; rw [if_neg n1, if_neg n2, if_pos n3, if_pos g])
      · have g : ¬ x 0 * x 4 - x 1 * x 3 = x 8 * x 8 := lcn h rfl (by simp only [zl_mul, zl_add, zl_sub, zl_neg])
        exact fin 10 row2 two2 (by unfold flatv; rw [if_neg n1, if_neg n2, if_pos n3, if_neg g])
  have third : ¬ (x 0 = x 4 ∧ x 1 = - x 3) → ¬ (x 0 = - x 4 ∧ x 1 = x 3) → X 162 [some (.ref 0), some (.long (zl (x 0))), none, some (.long (zl (x 1))), none, some (.long (zl (x 3))), none, some (.long (zl (x 4))), none, some (.long (zl (x 8))), none, none, none, none] [] (GR n nm ng ns ngr pp av be so ro tb gv sd gr row table (fun i => zl (x i)) two) := by
    intro n1 n2
    refine hX.run (oc := []) kX11_flatKind_ok ftX11_ok ctX11_ok xnoc [216] [] [] 90 ?_
    refine hX.callV0 (rest := []) (c_rank l n nm ng ns ngr pp av be so ro tb gv sd gr row table two x (x 8) hx (ab_le (hx 8 (by omega)) (by decide))) yX11_rank_ok lkX11_245 ivX11_rank slX11_rank ⟨rfl, rfl, by decide, by decide⟩ (kX11_flatKind_ok.at 180 rfl) rfl rfl (by decide) rfl rfl rfl (fun _ _ q => by obtain ⟨_, -, -, rfl⟩ := q; rfl) (fun r9 G1 q => ?_)
    obtain ⟨row2, rfl, hrow, rfl⟩ := q
    have hle := rkv_le (lss x (x 8))
    have m5 := lss_bd hx (ab_le (hx 8 (by omega)) (by decide) : ab (x 8) 1500)
    have jz : ∀ i, i < 3 → jr ((rkv (lss x (x 8))).2 i) := fun i hi => ab_jr (rkv_bd m5 i hi) (by decide)
    have go : ∀ (b : Nat), b = 0 ∨ b = 1 → (b = 1 ↔ ((rkv (lss x (x 8))).1 = 1 ∧ ((rkv (lss x (x 8))).2 0 ≠ 0 ∨ (rkv (lss x (x 8))).2 1 ≠ 0))) → X 216 [some (.ref 0), some (.long (zl (x 0))), none, some (.long (zl (x 1))), none, some (.long (zl (x 3))), none, some (.long (zl (x 4))), none, some (.long (zl (x 8))), none, some (.long (zl (x 0) * zl (x 4) - zl (x 1) * zl (x 3))), none, some (.int (nI b))] [] (GR n nm ng ns ngr pp av be so ro tb gv sd gr row2 table (fun i => zl (x i)) (fun i => zl (lss x (x 8) i))) := by
      intro b hb hst
      have := stays row2 (fun i => zl (lss x (x 8) i)) b hb n1 n2 hst
      rw [zl_mul, zl_mul, zl_sub]
      exact this
    refine hX.run (oc := []) kX11_flatKind_ok ftX11_ok ctX11_ok xnoc [216] [] [] 90 ?_
    refine ⟨fun h => ?_, fun h => ?_⟩
    · have h1 : (rkv (lss x (x 8))).1 = 1 := by
        have h4 : nI (rkv (lss x (x 8))).1 = nI 1 := h
        rwa [nI_eq (by omega) (by omega)] at h4
      have hr := hrow (by omega)
      refine ⟨fun h => ?_, fun h => ?_⟩
      · have g0 : (rkv (lss x (x 8))).2 0 = 0 := lce h (hr 0 (by omega)) rfl (jz 0 (by omega)) j0
        refine ⟨fun h => ?_, fun h => ?_⟩
        · have g1 : (rkv (lss x (x 8))).2 1 = 0 := lce h (hr 1 (by omega)) rfl (jz 1 (by omega)) j0
          exact go 0 (Or.inl rfl) ⟨fun q => by omega, fun q => (q.2.elim (fun w => w g0) (fun w => w g1)).elim⟩
        · have g1 : ¬ (rkv (lss x (x 8))).2 1 = 0 := lcn h (hr 1 (by omega)) rfl
          exact go 1 (Or.inr rfl) ⟨fun _ => ⟨h1, Or.inr g1⟩, fun _ => rfl⟩
      · have g0 : ¬ (rkv (lss x (x 8))).2 0 = 0 := lcn h (hr 0 (by omega)) rfl
        exact go 1 (Or.inr rfl) ⟨fun _ => ⟨h1, Or.inl g0⟩, fun _ => rfl⟩
    · have h1 : ¬ (rkv (lss x (x 8))).1 = 1 := fun e => h (by rw [e]; rfl)
      exact go 0 (Or.inl rfl) ⟨fun q => by omega, fun q => absurd q.1 h1⟩
  have second : ¬ (x 0 = x 4 ∧ x 1 = - x 3) → X 107 [some (.ref 0), some (.long (zl (x 0))), none, some (.long (zl (x 1))), none, some (.long (zl (x 3))), none, some (.long (zl (x 4))), none, some (.long (zl (x 8))), none, none, none, none] [] (GR n nm ng ns ngr pp av be so ro tb gv sd gr row table (fun i => zl (x i)) two) := by
    intro n1
    refine hX.run (oc := []) kX11_flatKind_ok ftX11_ok ctX11_ok xnoc [162] [] [] 90 ?_
    refine ⟨fun h => ?_, fun h => ?_⟩
    · have g0 : x 0 = - x 4 := lce h rfl (zl_neg _) (j5 0 (by omega)) (jn 4 (by omega))
      refine ⟨fun h => ?_, fun h => ?_⟩
      · have g1 : x 1 = x 3 := lce h rfl rfl (j5 1 (by omega)) (j5 3 (by omega))
        refine ⟨fun h => ?_, fun h => ?_⟩
        · have g2 : x 0 * x 0 + x 1 * x 1 = x 8 * x 8 := lce h (by simp only [zl_mul, zl_add, zl_sub, zl_neg]) (by simp only [zl_mul, zl_add, zl_sub, zl_neg]) js jg
          refine hX.callV0 (rest := []) (c_isTwiceAll l n nm ng ns ngr pp av be so ro tb gv sd gr row table two x hx) yX11_isTwiceAll_ok lkX11_242 ivX11_isTwiceAll slX11_isTwiceAll ⟨rfl, rfl, by decide, by decide⟩ (kX11_flatKind_ok.at 148 rfl) rfl rfl (by decide) rfl rfl rfl (fun _ _ q => by rw [q.2]; rfl) (fun r9 G1 q => ?_)
          obtain ⟨⟨q1, q2⟩, rfl⟩ := q
          by_cases hc : all9 (mul9 x x)
          · rw [q1 hc]
            refine hX.run (oc := []) kX11_flatKind_ok ftX11_ok ctX11_ok xnoc [] [151] [] 20 ?_
            exact fin 6 _ _ (by unfold flatv; rw [if_neg n1, if_pos ⟨g0, g1⟩, if_neg (fun q => q g2), if_pos hc])
          · rw [q2 hc]
            refine hX.run (oc := []) kX11_flatKind_ok ftX11_ok ctX11_ok xnoc [] [151] [] 20 ?_
            exact fin 7 _ _ (by unfold flatv; rw [if_neg n1, if_pos ⟨g0, g1⟩, if_neg (fun q => q g2), if_neg hc])
        · have g2 : ¬ x 0 * x 0 + x 1 * x 1 = x 8 * x 8 := lcn h (by simp only [zl_mul, zl_add, zl_sub, zl_neg]) (by simp only [zl_mul, zl_add, zl_sub, zl_neg])
          exact fin 8 _ _ (by unfold flatv; rw [if_neg n1, if_pos ⟨g0, g1⟩, if_pos g2])
      · have g1 : ¬ x 1 = x 3 := lcn h rfl rfl
        exact third n1 (fun q => g1 q.2)
    · have g0 : ¬ x 0 = - x 4 := lcn h rfl (zl_neg _)
      exact third n1 (fun q => g0 q.1)
  refine hX.run (oc := []) kX11_flatKind_ok ftX11_ok ctX11_ok xnoc [107] [] [] 90 ?_
  refine ⟨fun h => ?_, fun h => ?_⟩
  · have g0 : x 0 = x 4 := lce h rfl rfl (j5 0 (by omega)) (j5 4 (by omega))
    refine ⟨fun h => ?_, fun h => ?_⟩
    · have g1 : x 1 = - x 3 := lce h rfl (zl_neg _) (j5 1 (by omega)) (jn 3 (by omega))
      refine ⟨fun h => ?_, fun h => ?_⟩
      · have g2 : x 1 = 0 := lce h rfl rfl (j5 1 (by omega)) j0
        refine ⟨fun h => ?_, fun h => ?_⟩
        · have g3 : x 0 = x 8 := lce h rfl rfl (j5 0 (by omega)) (j5 8 (by omega))
          exact fin 1 _ _ (by unfold flatv; rw [if_pos ⟨g0, g1⟩, if_pos g2, if_pos g3])
        · have g3 : ¬ x 0 = x 8 := lcn h rfl rfl
          refine ⟨fun h => ?_, fun h => ?_⟩
          · have g4 : x 0 = - x 8 := lce h rfl (zl_neg _) (j5 0 (by omega)) (jn 8 (by omega))
            exact fin 2 _ _ (by unfold flatv; rw [if_pos ⟨g0, g1⟩, if_pos g2, if_neg g3, if_pos g4])
          · have g4 : ¬ x 0 = - x 8 := lcn h rfl (zl_neg _)
            exact fin 4 _ _ (by unfold flatv; rw [if_pos ⟨g0, g1⟩, if_pos g2, if_neg g3, if_neg g4])
      · have g2 : ¬ x 1 = 0 := lcn h rfl rfl
        refine ⟨fun h => ?_, fun h => ?_⟩
        · have g3 : x 0 * x 0 + x 1 * x 1 = x 8 * x 8 := lce h (by simp only [zl_mul, zl_add, zl_sub, zl_neg]) (by simp only [zl_mul, zl_add, zl_sub, zl_neg]) js jg
          exact fin 3 _ _ (by unfold flatv; rw [if_pos ⟨g0, g1⟩, if_neg g2, if_pos g3])
        · have g3 : ¬ x 0 * x 0 + x 1 * x 1 = x 8 * x 8 := lcn h (by simp only [zl_mul, zl_add, zl_sub, zl_neg]) (by simp only [zl_mul, zl_add, zl_sub, zl_neg])
          exact fin 5 _ _ (by unfold flatv; rw [if_pos ⟨g0, g1⟩, if_neg g2, if_neg g3])
    · have g1 : ¬ x 1 = - x 3 := lcn h rfl (zl_neg _)
      exact second (fun q => g1 q.2)
  · have g0 : ¬ x 0 = x 4 := lcn h rfl rfl
    exact second (fun q => g0 q.1)
set_option maxHeartbeats 4000000 in
set_option maxRecDepth 100000 in
theorem c_farKind (l : Launch) (n nm ng ns ngr : Int32) (pp av be : Int64) (so ro tb gv sd gr : Nat → Int32) (row table two : Nat → Int64) (x : Nat → Int) (hx : ∀ i, i < 9 → ab (x i) 500) : xM l yX11_farKind cX11_farKind 12 (some .int) rX11_farKind [.ref 0] (GR n nm ng ns ngr pp av be so ro tb gv sd gr row table (fun i => zl (x i)) two) (fun r G => ∃ row' two', r = some (.int (nI (farv x 3001 (-1500)))) ∧ G = GR n nm ng ns ngr pp av be so ro tb gv sd gr row' table (fun i => zl (x i)) two') := by
  refine xM.of (by decide) (Nat.le_of_ble_eq_true rfl) (fun X hX => ?_)
  have j0 : jr 0 := ⟨by omega, by omega⟩
  have fin : ∀ (k : Nat) (row2 two2 : Nat → Int64), farv x 3001 (-1500) = k → ∃ row' two', some (Value.int (nI k)) = some (.int (nI (farv x 3001 (-1500)))) ∧ (GR n nm ng ns ngr pp av be so ro tb gv sd gr row2 table (fun i => zl (x i)) two2) = GR n nm ng ns ngr pp av be so ro tb gv sd gr row' table (fun i => zl (x i)) two' := by
    intro k row2 two2 h
    rw [h]
    exact ⟨_, _, rfl, rfl⟩
  have main : ∀ (d : Nat) (z : Int) (row two : Nat → Int64), z = 1501 - d → d ≤ 3001 → farv x 3001 (-1500) = farv x d z → X 4 [some (.ref 0), some (.long (zl z)), none, none, none, none, none, none, none, none, none, none] [] (GR n nm ng ns ngr pp av be so ro tb gv sd gr row table (fun i => zl (x i)) two) := by
    intro d
    induction d with
    | zero =>
      intro z row two hz hd hv
      refine hX.run (oc := []) kX11_farKind_ok ftX11_ok ctX11_ok xnoc [] [] [] 60 ?_
      refine ⟨fun _ => fin 16 _ _ hv, fun h => ?_⟩
      exfalso
      apply h
      apply lgc_gt.mpr
      show zl 1500 < zl z
      rw [zl_lt ⟨by omega, by omega⟩ ⟨by omega, by omega⟩]
      omega
    | succ d ih =>
      intro z row two hz hd hv
      have hz5 : ab z 1500 := ⟨by omega, by omega⟩
      have eadd : zl z + Int64.ofNat ((1 : Fin 2) : Nat) = zl (z + 1) := zl_add z 1
      refine hX.run (oc := []) kX11_farKind_ok ftX11_ok ctX11_ok xnoc [] [] [] 60 ?_
      refine ⟨fun h => ?_, fun _ => ?_⟩
      · exfalso
        have h1 : zl 1500 < zl z := lgc_gt.mp h
        rw [zl_lt ⟨by omega, by omega⟩ ⟨by omega, by omega⟩] at h1
        omega
      refine hX.callV0 (rest := []) (c_rank l n nm ng ns ngr pp av be so ro tb gv sd gr row table two x z hx hz5) yX11_rank_ok lkX11_245 ivX11_rank slX11_rank ⟨rfl, rfl, by decide, by decide⟩ (kX11_farKind_ok.at 18 rfl) rfl rfl (by decide) rfl rfl rfl (fun _ _ q => by obtain ⟨_, -, -, rfl⟩ := q; rfl) (fun r9 G1 q => ?_)
      obtain ⟨row2, rfl, hrow, rfl⟩ := q
      have hle := rkv_le (lss x z)
      have m5 := lss_bd hx hz5
      have jz : ∀ i, i < 3 → jr ((rkv (lss x z)).2 i) := fun i hi => ab_jr (rkv_bd m5 i hi) (by decide)
      refine hX.run (oc := []) kX11_farKind_ok ftX11_ok ctX11_ok xnoc [4] [] [] 60 ?_
      refine ⟨fun h => ?_, fun h => ?_⟩
      · have h1 : (rkv (lss x z)).1 = 1 := by
          have h4 : nI (rkv (lss x z)).1 = nI 1 := h
          rwa [nI_eq (by omega) (by omega)] at h4
        have hr := hrow (by omega)
        have hv : farv x 3001 (-1500) = farw x z := by rw [hv, farv, if_pos h1]
        refine ⟨fun h => ?_, fun h => ?_⟩
        · have g0 : (rkv (lss x z)).2 0 = 0 := lce h (hr 0 (by omega)) rfl (jz 0 (by omega)) j0
          refine ⟨fun h => ?_, fun h => ?_⟩
          · have g1 : (rkv (lss x z)).2 1 = 0 := lce h (hr 1 (by omega)) rfl (jz 1 (by omega)) j0
            have ec : col1 (rkv (lss x z)).2 = 2 := by unfold col1; rw [if_neg (fun q => q g0), if_neg (fun q => q g1)]
            have ew : farw x z = if (rkv (lss x z)).2 0 * lss x z 2 + (rkv (lss x z)).2 1 * lss x z 5 + (rkv (lss x z)).2 2 * lss x z 8 = 0 then 13 else if all9 (mul9 x x) then 14 else 15 := by unfold farw; rw [ec]
            have jon : jr ((rkv (lss x z)).2 0 * lss x z 2 + (rkv (lss x z)).2 1 * lss x z 5 + (rkv (lss x z)).2 2 * lss x z 8) := ab_jr (ab_add (ab_add (ab_mul (rkv_bd m5 0 (by omega)) (m5 2 (by omega))) (ab_mul (rkv_bd m5 1 (by omega)) (m5 5 (by omega)))) (ab_mul (rkv_bd m5 2 (by omega)) (m5 8 (by omega)))) (by decide)
            refine ⟨fun h => ?_, fun h => ?_⟩
            · have go : (rkv (lss x z)).2 0 * lss x z 2 + (rkv (lss x z)).2 1 * lss x z 5 + (rkv (lss x z)).2 2 * lss x z 8 = 0 := lce h (by rw [hr 0 (by omega), hr 1 (by omega), hr 2 (by omega)]; simp only [zl_mul, zl_add]) rfl jon j0
              exact fin 13 _ _ (by rw [hv, ew, if_pos go])
            · have go : ¬ (rkv (lss x z)).2 0 * lss x z 2 + (rkv (lss x z)).2 1 * lss x z 5 + (rkv (lss x z)).2 2 * lss x z 8 = 0 := lcn h (by rw [hr 0 (by omega), hr 1 (by omega), hr 2 (by omega)]; simp only [zl_mul, zl_add]) rfl
              refine hX.callV0 (rest := []) (c_isTwiceAll l n nm ng ns ngr pp av be so ro tb gv sd gr row2 table (fun i => zl (lss x z i)) x hx) yX11_isTwiceAll_ok lkX11_242 ivX11_isTwiceAll slX11_isTwiceAll ⟨rfl, rfl, by decide, by decide⟩ (kX11_farKind_ok.at 127 rfl) rfl rfl (by decide) rfl rfl rfl (fun _ _ q => by rw [q.2]; rfl) (fun r9 G1 q => ?_)
              obtain ⟨⟨q1, q2⟩, rfl⟩ := q
              by_cases hc : all9 (mul9 x x)
              · rw [q1 hc]
                refine hX.run (oc := []) kX11_farKind_ok ftX11_ok ctX11_ok xnoc [] [130] [] 20 ?_
                exact fin 14 _ _ (by rw [hv, ew, if_neg go, if_pos hc])
              · rw [q2 hc]
                refine hX.run (oc := []) kX11_farKind_ok ftX11_ok ctX11_ok xnoc [] [130] [] 20 ?_
                exact fin 15 _ _ (by rw [hv, ew, if_neg go, if_neg hc])
          · have g1 : ¬ (rkv (lss x z)).2 1 = 0 := lcn h (hr 1 (by omega)) rfl
            have ec : col1 (rkv (lss x z)).2 = 1 := by unfold col1; rw [if_neg (fun q => q g0), if_pos g1]
            have ew : farw x z = if (rkv (lss x z)).2 0 * lss x z 1 + (rkv (lss x z)).2 1 * lss x z 4 + (rkv (lss x z)).2 2 * lss x z 7 = 0 then 13 else if all9 (mul9 x x) then 14 else 15 := by unfold farw; rw [ec]
            have jon : jr ((rkv (lss x z)).2 0 * lss x z 1 + (rkv (lss x z)).2 1 * lss x z 4 + (rkv (lss x z)).2 2 * lss x z 7) := ab_jr (ab_add (ab_add (ab_mul (rkv_bd m5 0 (by omega)) (m5 1 (by omega))) (ab_mul (rkv_bd m5 1 (by omega)) (m5 4 (by omega)))) (ab_mul (rkv_bd m5 2 (by omega)) (m5 7 (by omega)))) (by decide)
            refine ⟨fun h => ?_, fun h => ?_⟩
            · have go : (rkv (lss x z)).2 0 * lss x z 1 + (rkv (lss x z)).2 1 * lss x z 4 + (rkv (lss x z)).2 2 * lss x z 7 = 0 := lce h (by rw [hr 0 (by omega), hr 1 (by omega), hr 2 (by omega)]; simp only [zl_mul, zl_add]) rfl jon j0
              exact fin 13 _ _ (by rw [hv, ew, if_pos go])
            · have go : ¬ (rkv (lss x z)).2 0 * lss x z 1 + (rkv (lss x z)).2 1 * lss x z 4 + (rkv (lss x z)).2 2 * lss x z 7 = 0 := lcn h (by rw [hr 0 (by omega), hr 1 (by omega), hr 2 (by omega)]; simp only [zl_mul, zl_add]) rfl
              refine hX.callV0 (rest := []) (c_isTwiceAll l n nm ng ns ngr pp av be so ro tb gv sd gr row2 table (fun i => zl (lss x z i)) x hx) yX11_isTwiceAll_ok lkX11_242 ivX11_isTwiceAll slX11_isTwiceAll ⟨rfl, rfl, by decide, by decide⟩ (kX11_farKind_ok.at 127 rfl) rfl rfl (by decide) rfl rfl rfl (fun _ _ q => by rw [q.2]; rfl) (fun r9 G1 q => ?_)
              obtain ⟨⟨q1, q2⟩, rfl⟩ := q
              by_cases hc : all9 (mul9 x x)
              · rw [q1 hc]
                refine hX.run (oc := []) kX11_farKind_ok ftX11_ok ctX11_ok xnoc [] [130] [] 20 ?_
                exact fin 14 _ _ (by rw [hv, ew, if_neg go, if_pos hc])
              · rw [q2 hc]
                refine hX.run (oc := []) kX11_farKind_ok ftX11_ok ctX11_ok xnoc [] [130] [] 20 ?_
                exact fin 15 _ _ (by rw [hv, ew, if_neg go, if_neg hc])
        · have g0 : ¬ (rkv (lss x z)).2 0 = 0 := lcn h (hr 0 (by omega)) rfl
          have ec : col1 (rkv (lss x z)).2 = 0 := by unfold col1; rw [if_pos g0]
          have ew : farw x z = if (rkv (lss x z)).2 0 * lss x z 0 + (rkv (lss x z)).2 1 * lss x z 3 + (rkv (lss x z)).2 2 * lss x z 6 = 0 then 13 else if all9 (mul9 x x) then 14 else 15 := by unfold farw; rw [ec]
          have jon : jr ((rkv (lss x z)).2 0 * lss x z 0 + (rkv (lss x z)).2 1 * lss x z 3 + (rkv (lss x z)).2 2 * lss x z 6) := ab_jr (ab_add (ab_add (ab_mul (rkv_bd m5 0 (by omega)) (m5 0 (by omega))) (ab_mul (rkv_bd m5 1 (by omega)) (m5 3 (by omega)))) (ab_mul (rkv_bd m5 2 (by omega)) (m5 6 (by omega)))) (by decide)
          refine ⟨fun h => ?_, fun h => ?_⟩
          · have go : (rkv (lss x z)).2 0 * lss x z 0 + (rkv (lss x z)).2 1 * lss x z 3 + (rkv (lss x z)).2 2 * lss x z 6 = 0 := lce h (by rw [hr 0 (by omega), hr 1 (by omega), hr 2 (by omega)]; simp only [zl_mul, zl_add]) rfl jon j0
            exact fin 13 _ _ (by rw [hv, ew, if_pos go])
          · have go : ¬ (rkv (lss x z)).2 0 * lss x z 0 + (rkv (lss x z)).2 1 * lss x z 3 + (rkv (lss x z)).2 2 * lss x z 6 = 0 := lcn h (by rw [hr 0 (by omega), hr 1 (by omega), hr 2 (by omega)]; simp only [zl_mul, zl_add]) rfl
            refine hX.callV0 (rest := []) (c_isTwiceAll l n nm ng ns ngr pp av be so ro tb gv sd gr row2 table (fun i => zl (lss x z i)) x hx) yX11_isTwiceAll_ok lkX11_242 ivX11_isTwiceAll slX11_isTwiceAll ⟨rfl, rfl, by decide, by decide⟩ (kX11_farKind_ok.at 127 rfl) rfl rfl (by decide) rfl rfl rfl (fun _ _ q => by rw [q.2]; rfl) (fun r9 G1 q => ?_)
            obtain ⟨⟨q1, q2⟩, rfl⟩ := q
            by_cases hc : all9 (mul9 x x)
            · rw [q1 hc]
              refine hX.run (oc := []) kX11_farKind_ok ftX11_ok ctX11_ok xnoc [] [130] [] 20 ?_
              exact fin 14 _ _ (by rw [hv, ew, if_neg go, if_pos hc])
            · rw [q2 hc]
              refine hX.run (oc := []) kX11_farKind_ok ftX11_ok ctX11_ok xnoc [] [130] [] 20 ?_
              exact fin 15 _ _ (by rw [hv, ew, if_neg go, if_neg hc])
      · have h1 : ¬ (rkv (lss x z)).1 = 1 := fun e => h (by rw [e]; rfl)
        have := ih (z + 1) row2 (fun i => zl (lss x z i)) (by omega) (by omega) (by rw [hv, farv, if_neg h1])
        rw [← eadd] at this
        exact this
  refine hX.run (oc := []) kX11_farKind_ok ftX11_ok ctX11_ok xnoc [4] [] [] 60 ?_
  exact main 3001 (-1500) row two (by omega) (by omega) rfl
def sp_kind (S : SS) (m : Int) : Int := if 0 ≤ m ∧ m < S.2.1.1 then kdv (S.2.1.2 m.toNat) else -1
set_option maxHeartbeats 4000000 in
set_option maxRecDepth 100000 in
theorem r_kind (l : Launch) (S : SS) (G0 : List xE) (hG : RInv S G0) (a0 : Int32) : xM l yX11_kind cX11_kind 2 (some .int) rX11_kind [.ref 0, .int a0] G0 (fun r G => r = some (.int (zi (sp_kind S a0.toInt))) ∧ RInv S G) := by
  have hG9 := hG
  obtain ⟨pp, av, be, so, ro, tb, gv, sd, gr, row, table, one, two, rfl, hro, hrt, hrv, hrs, hrg, hr1⟩ := hG
  refine xM.of (by decide) (Nat.le_of_ble_eq_true rfl) (fun X hX => ?_)
  have hM := hrt.1
  have hoc := xoc1 (oIsMap_ok hX (by decide) hM) xnoc
  have im : ∀ k : Int32, isM S.2.1 k ↔ (0 ≤ k.toInt ∧ k.toInt < S.2.1.1) := fun k => isM_iff (by omega)
  refine hX.run (oc := [(434, oIsMap S.2.1)]) kX11_kind_ok ftX11_ok ctX11_ok hoc [10] [5] [] 60 ?_
  refine ⟨rfl, fun h1 => ?_, fun h1 => ?_⟩
  rotate_left
  · have e : sp_kind S a0.toInt = -1 := by unfold sp_kind; rw [if_neg (fun q => h1 ((im _).mpr q))]
    rw [e]
    exact ⟨rfl, hG9⟩
  have g1 := (im _).mp h1
  obtain ⟨a, ha, ea⟩ := h1
  subst ea
  have e1 : (nI a).toInt = (a : Int) := nI_toInt (by omega)
  have j0 : jr 0 := ⟨by omega, by omega⟩
  have jx : ∀ i, i < 9 → jr ((S.2.1.2 a) i) := fun i hi => ab_jr (hrt.bd ha hi) (by decide)
  have fin : ∀ (k : Nat) (row2 two2 : Nat → Int64), kdv (S.2.1.2 a) = k → some (Value.int (nI k)) = some (.int (zi (sp_kind S (nI a).toInt))) ∧ RInv S (GR (nI S.1.1) (nI S.2.1.1) (nI S.2.2.1.1) (nI S.2.2.2.1.1) (nI S.2.2.2.2.1) pp av be so ro tb gv sd gr row2 table (fun i => zl ((S.2.1.2 a) i)) two2) := by
    intro k row2 two2 h
    have esp : sp_kind S (nI a).toInt = (k : Int) := by
      unfold sp_kind
      rw [if_pos g1, e1, ← h]; rfl
    rw [esp, zi_nI]
    exact ⟨rfl, pp, av, be, so, ro, tb, gv, sd, gr, row2, table, _, two2, rfl, hro, hrt, hrv, hrs, hrg, hr1⟩
  refine hX.run (oc := [(434, oIsMap S.2.1)]) kX11_kind_ok ftX11_ok ctX11_ok hoc [] [] [] 30 ?_
  refine hX.callV0 (rest := []) (c_bring_one l (nI S.1.1) (nI S.2.2.1.1) (nI S.2.2.2.1.1) (nI S.2.2.2.2.1) pp av be so ro tb gv sd gr row _ _ _ S.2.1 hrt a ha) yX11_bring_ok lkX11_220 ivX11_bring slX11_bring ⟨rfl, rfl, by decide, by decide⟩ (kX11_kind_ok.at 16 rfl) rfl rfl (by decide) rfl rfl rfl (fun _ _ q => by rw [q.2]; rfl) (fun r9 G1 q => ?_)
  obtain ⟨rfl, rfl⟩ := q
  refine hX.run (oc := [(434, oIsMap S.2.1)]) kX11_kind_ok ftX11_ok ctX11_ok hoc [] [] [] 30 ?_
  refine hX.callV [9, 0] [] (c_isAll l (S.2.1.2 a) jx) yX11_isAll_ok lkX11_232 ivX11_isAll slX11_isAll ⟨rfl, rfl, by decide, by decide⟩ (kX11_kind_ok.at 24 rfl) rfl rfl (by decide) rfl rfl rfl ⟨rfl, trivial⟩ rfl (fun _ _ q => by rw [q.2]) (fun r9 G1 q => ?_)
  obtain ⟨⟨q1, q2⟩, rfl⟩ := q
  by_cases hc : all9 (S.2.1.2 a)
  · rw [q1 hc]
    refine hX.run (oc := [(434, oIsMap S.2.1)]) kX11_kind_ok ftX11_ok ctX11_ok hoc [] [27] [] 20 ?_
    exact fin 0 _ _ (by unfold kdv; rw [if_pos hc])
  rw [q2 hc]
  have far : ¬ ((S.2.1.2 a) 6 = 0 ∧ (S.2.1.2 a) 7 = 0) → X 63 [some (.ref 0), none] [] (GR (nI S.1.1) (nI S.2.1.1) (nI S.2.2.1.1) (nI S.2.2.2.1.1) (nI S.2.2.2.2.1) pp av be so ro tb gv sd gr row table (fun i => zl ((S.2.1.2 a) i)) two) := by
    intro hn
    refine hX.run (oc := [(434, oIsMap S.2.1)]) kX11_kind_ok ftX11_ok ctX11_ok hoc [] [] [] 20 ?_
    refine hX.callV0 (rest := []) (c_farKind l (nI S.1.1) (nI S.2.1.1) (nI S.2.2.1.1) (nI S.2.2.2.1.1) (nI S.2.2.2.2.1) pp av be so ro tb gv sd gr row table two (S.2.1.2 a) (fun i hi => hrt.bd ha hi)) yX11_farKind_ok lkX11_239 ivX11_farKind slX11_farKind ⟨rfl, rfl, by decide, by decide⟩ (kX11_kind_ok.at 64 rfl) rfl rfl (by decide) rfl rfl rfl (fun _ _ q => by obtain ⟨_, _, -, rfl⟩ := q; rfl) (fun r9 G1 q => ?_)
    obtain ⟨row2, two2, rfl, rfl⟩ := q
    refine hX.run (oc := [(434, oIsMap S.2.1)]) kX11_kind_ok ftX11_ok ctX11_ok hoc [] [] [] 20 ?_
    exact fin _ _ _ (by unfold kdv; rw [if_neg hc, if_neg hn])
  refine hX.run (oc := [(434, oIsMap S.2.1)]) kX11_kind_ok ftX11_ok ctX11_ok hoc [63] [27] [] 30 ?_
  refine ⟨fun h => ?_, fun h => ?_⟩
  · have g6 : (S.2.1.2 a) 6 = 0 := lce h rfl rfl (jx 6 (by omega)) j0
    refine ⟨fun h => ?_, fun h => ?_⟩
    rotate_left
    · have g7 : ¬ (S.2.1.2 a) 7 = 0 := lcn h rfl rfl
      exact hX.less (far (fun q => g7 q.2)) ⟨rfl, trivial⟩
    have g7 : (S.2.1.2 a) 7 = 0 := lce h rfl rfl (jx 7 (by omega)) j0
    refine hX.callV0 (rest := []) (c_flatKind l (nI S.1.1) (nI S.2.1.1) (nI S.2.2.1.1) (nI S.2.2.2.1.1) (nI S.2.2.2.2.1) pp av be so ro tb gv sd gr row table two (S.2.1.2 a) (fun i hi => hrt.bd ha hi)) yX11_flatKind_ok lkX11_236 ivX11_flatKind slX11_flatKind ⟨rfl, rfl, by decide, by decide⟩ (kX11_kind_ok.at 57 rfl) rfl rfl (by decide) rfl rfl rfl (fun _ _ q => by obtain ⟨_, _, -, rfl⟩ := q; rfl) (fun r9 G1 q => ?_)
    obtain ⟨row2, two2, rfl, rfl⟩ := q
    refine hX.run (oc := [(434, oIsMap S.2.1)]) kX11_kind_ok ftX11_ok ctX11_ok hoc [] [] [] 20 ?_
    exact fin _ _ _ (by unfold kdv; rw [if_neg hc, if_pos ⟨g6, g7⟩])
  · have g6 : ¬ (S.2.1.2 a) 6 = 0 := lcn h rfl rfl
    exact hX.less (far (fun q => g6 q.1)) ⟨rfl, trivial⟩
