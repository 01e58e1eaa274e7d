/-! THE REFERENCE: its world, its small methods -/
/-- the reference's cells: the object, sorts, rows, tables, given, seeds, group, row, table, one, two -/
def GR (n nm ng ns ngr : Int32) (pp ab be : Int64) (so ro tb gv sd gr : Nat → Int32) (row table one two : Nat → Int64) : List xE :=
  [.inr (7, [.ref 1, .ref 2, .int n, .ref 3, .int nm, .ref 4, .int ng, .ref 5, .int ns, .ref 6, .int ngr, .ref 7, .ref 8, .ref 9, .ref 10, .long pp, .long ab, .long be]),
   .inl (60, .inl so), .inl (360, .inl ro), .inl (360, .inl tb), .inl (8, .inl gv), .inl (4, .inl sd), .inl (432, .inl gr),
   .inl (6, .inr (.inl row)), .inl (9, .inr (.inl table)), .inl (9, .inr (.inl one)), .inl (9, .inr (.inl two))]
def xnums : List Nat → List Nat → Bool
  | [], [] => true
  | a :: t, b :: u => (match Nat.beq a b with | true => xnums t u | false => false)
  | _, _ => false
theorem xnums_eq : ∀ {t u : List Nat}, xnums t u = true → t = u
  | [], [], _ => rfl
  | a :: t, b :: u, h => by
    unfold xnums at h
    cases hb : Nat.beq a b with
    | true => rw [hb] at h; rw [Nat.eq_of_beq_eq_true hb, xnums_eq h]
    | false => rw [hb] at h; cases h
  | [], _ :: _, h => by simp [xnums] at h
  | _ :: _, [], h => by simp [xnums] at h
def xGRm (G : List xE) (K : Int32 → Int32 → Int32 → Int32 → Int32 → Int64 → Int64 → Int64 → (Nat → Int32) → (Nat → Int32) → (Nat → Int32) → (Nat → Int32) → (Nat → Int32) → (Nat → Int32) → (Nat → Int64) → (Nat → Int64) → (Nat → Int64) → (Nat → Int64) → Prop) : Prop := match G with
  | [.inr (c0, [.ref a1, .ref a2, .int n, .ref a3, .int nm, .ref a4, .int ng, .ref a5, .int ns, .ref a6, .int ngr, .ref a7, .ref a8, .ref a9, .ref a10, .long pp, .long ab, .long be]), .inl (l1, .inl so), .inl (l2, .inl ro), .inl (l3, .inl tb), .inl (l4, .inl gv), .inl (l5, .inl sd), .inl (l6, .inl gr), .inl (l7, .inr (.inl row)), .inl (l8, .inr (.inl table)), .inl (l9, .inr (.inl one)), .inl (l10, .inr (.inl two))] =>
    (match xnums [c0, a1, a2, a3, a4, a5, a6, a7, a8, a9, a10, l1, l2, l3, l4, l5, l6, l7, l8, l9, l10] [7, 1, 2, 3, 4, 5, 6, 7, 8, 9, 10, 60, 360, 360, 8, 4, 432, 6, 9, 9, 9] with
    | true => K n nm ng ns ngr pp ab be so ro tb gv sd gr row table one two
    | false => False)
  | _ => False
theorem xGRm_ok {G : List xE} {K : Int32 → Int32 → Int32 → Int32 → Int32 → Int64 → Int64 → Int64 → (Nat → Int32) → (Nat → Int32) → (Nat → Int32) → (Nat → Int32) → (Nat → Int32) → (Nat → Int32) → (Nat → Int64) → (Nat → Int64) → (Nat → Int64) → (Nat → Int64) → Prop} (h : xGRm G K) : ∃ n nm ng ns ngr pp ab be so ro tb gv sd gr row table one two, G = GR n nm ng ns ngr pp ab be so ro tb gv sd gr row table one two ∧ K n nm ng ns ngr pp ab be so ro tb gv sd gr row table one two := by
  unfold xGRm at h
  split at h
  next =>
    split at h
    next hn =>
      have hn := xnums_eq hn
      simp only [List.cons.injEq] at hn
      obtain ⟨rfl, rfl, rfl, rfl, rfl, rfl, rfl, rfl, rfl, rfl, rfl, rfl, rfl, rfl, rfl, rfl, rfl, rfl, rfl, rfl, rfl, -⟩ := hn
      exact ⟨_, _, _, _, _, _, _, _, _, _, _, _, _, _, _, _, _, _, rfl, h⟩
    next => exact h.elim
  next => exact h.elim
theorem xnoc {cc : ByteArray} {X : Nat → List (Option Value) → List Value → List xE → Prop} : ∀ q ∈ ([] : List (Nat × xH)), xHq cc X q := fun _ h => absurd h List.not_mem_nil
theorem xoc1 {cc : ByteArray} {X : Nat → List (Option Value) → List Value → List xE → Prop} {a : Nat × xH} {t : List (Nat × xH)} (ha : xHq cc X a) (ht : ∀ q ∈ t, xHq cc X q) : ∀ q ∈ a :: t, xHq cc X q := List.forall_mem_cons.mpr ⟨ha, ht⟩
theorem xnof {own : String} : ∀ q ∈ ([] : List xF), xFok own q := fun _ h => absurd h List.not_mem_nil
theorem xnok {own : String} : ∀ q ∈ ([] : List (Nat × Int64)), Cond.constantLong own q.1 q.2 ∈ xT := fun _ h => absurd h List.not_mem_nil
theorem gcd_step (x y : Nat) : Nat.gcd y (x % y) = Nat.gcd x y := by
  rw [Nat.gcd_comm x y, Nat.gcd_rec y x, Nat.gcd_comm]
set_option maxHeartbeats 4000000 in
set_option maxRecDepth 100000 in
/-- gcd -/
theorem c_gcd (l : Launch) (a b : Int) (ha : jr a) (hb : jr b) : xM l yX11_gcd cX11_gcd 10 (some .long) rX11_gcd [.long (zl a), .long (zl b)] [] (fun r G => r = some (.long (zl (Int.gcd a b))) ∧ G = []) := by
  refine xM.of (by decide) (Nat.le_of_ble_eq_true rfl) (fun X hX => ?_)
  have loop : ∀ (n x y : Nat), y < n → x < 9223372036854775808 → y < 9223372036854775808 → Nat.gcd x y = Int.gcd a b → X 28 [some (.long (zl a)), none, some (.long (zl b)), none, some (.long (zl x)), none, some (.long (zl y)), none, none, none] [] [] := by
    intro n
    induction n with
    | zero => intro x y h; omega
    | succ n ih =>
      intro x y hn hx hy hg
      have jx : jr x := ⟨by omega, by omega⟩
      have jy : jr y := ⟨by omega, by omega⟩
      refine hX.run (oc := []) kX11_gcd_ok ftX11_ok ctX11_ok xnoc [28] [] [] 40 ?_
      refine ⟨fun h => ?_, fun h => ?_⟩
      · have h0 : zl y = zl 0 := lgc_eq.mp h
        rw [zl_eq jy ⟨by omega, by omega⟩] at h0
        refine ⟨?_, rfl⟩
        have hy0 : y = 0 := by omega
        subst hy0
        rw [Nat.gcd_zero_right] at hg
        rw [hg]
      · have h0 : ¬ zl y = zl 0 := fun q => h (lgc_eq.mpr q)
        have h1 : ¬ zl y = 0 := h0
        rw [zl_eq jy ⟨by omega, by omega⟩] at h0
        refine ⟨h1, ?_⟩
        have hm : (x : Int).tmod y = ((x % y : Nat) : Int) := by rw [Int.tmod_eq_emod_of_nonneg (by omega)]; rfl
        have hr : zl x - zl x / zl y * zl y = zl ((x % y : Nat) : Int) := by rw [zl_rem jx jy, hm]
        have hlt := Nat.mod_lt x (show 0 < y by omega)
        have := ih y (x % y) (by omega) hy (by omega) (by rw [gcd_step x y]; exact hg)
        rw [← hr] at this
        exact hX.less this ⟨rfl, rfl, rfl, rfl, trivial⟩
  have hab : ∀ z : Int, jr z → z.natAbs < 9223372036854775808 := fun z hz => by have := hz.1; have := hz.2; omega
  have fin : ∀ x y : Nat, x = a.natAbs → y = b.natAbs → X 28 [some (.long (zl a)), none, some (.long (zl b)), none, some (.long (zl x)), none, some (.long (zl y)), none, none, none] [] [] := fun x y ex ey => loop (y + 1) x y (by omega) (by rw [ex]; exact hab a ha) (by rw [ey]; exact hab b hb) (by rw [ex, ey]; rfl)
  have j0 : jr 0 := ⟨by omega, by omega⟩
  have step2 : ∀ x : Nat, x = a.natAbs → X 14 [some (.long (zl a)), none, some (.long (zl b)), none, some (.long (zl x)), none, none, none, none, none] [] [] := by
    intro x ex
    refine hX.run (oc := []) kX11_gcd_ok ftX11_ok ctX11_ok xnoc [28] [] [] 40 ?_
    refine ⟨fun h => ?_, fun h => ?_⟩
    · have h0 : zl 0 ≤ zl b := lgc_ge.mp h
      rw [zl_le j0 hb] at h0
      have := fin x b.natAbs ex rfl
      rw [show ((b.natAbs : Nat) : Int) = b by omega] at this
      exact this
    · have h0 : ¬ zl 0 ≤ zl b := fun q => h (lgc_ge.mpr q)
      rw [zl_le j0 hb] at h0
      have := fin x b.natAbs ex rfl
      rw [show ((b.natAbs : Nat) : Int) = -b by omega, ← zl_neg] at this
      exact this
  refine hX.run (oc := []) kX11_gcd_ok ftX11_ok ctX11_ok xnoc [14] [] [] 40 ?_
  refine ⟨fun h => ?_, fun h => ?_⟩
  · have h0 : zl 0 ≤ zl a := lgc_ge.mp h
    rw [zl_le j0 ha] at h0
    have := step2 a.natAbs rfl
    rw [show ((a.natAbs : Nat) : Int) = a by omega] at this
    exact this
  · have h0 : ¬ zl 0 ≤ zl a := fun q => h (lgc_ge.mpr q)
    rw [zl_le j0 ha] at h0
    have := step2 a.natAbs rfl
    rw [show ((a.natAbs : Nat) : Int) = -a by omega, ← zl_neg] at this
    exact this
def ixR (o i : Int32) : Int32 := (Int8.ofInt 6).toInt32 * o + i
set_option maxHeartbeats 4000000 in
set_option maxRecDepth 100000 in
/-- at(o, i) -/
theorem c_at (l : Launch) (n nm ng ns ngr : Int32) (pp ab be : Int64) (so ro tb gv sd gr : Nat → Int32) (row table one two : Nat → Int64) (o i : Int32) (j : Nat) (hi : ixR o i = nI j) (hj : j < 360) : xM l yX11_at cX11_at 3 (some .long) rX11_at [.ref 0, .int o, .int i] (GR n nm ng ns ngr pp ab be so ro tb gv sd gr row table one two) (fun r G => r = some (.long (ro j).toInt64) ∧ G = GR n nm ng ns ngr pp ab be so ro tb gv sd gr row table one two) := by
  refine xM.of (by decide) (Nat.le_of_ble_eq_true rfl) (fun X hX => ?_)
  refine hX.run (oc := []) kX11_at_ok ftX11_ok ctX11_ok xnoc [] [] [10] 20 ?_
  refine ⟨j, hi, hj, by omega, ?_⟩
  exact ⟨rfl, rfl⟩
theorem ixR_nI (o i : Nat) : ixR (nI o) (nI i) = nI (6 * o + i) := by
  unfold ixR
  rw [show (Int8.ofInt 6).toInt32 = nI 6 by decide, pk_mul, nI_add]
def oAt  : xH := fun st G K => match st with
  | .int i :: .int o :: .ref k :: r => (match Nat.beq k 0 && xrs r 8 with
    | true => xGRm G (fun n nm ng ns ngr pp ab be so ro tb gv sd gr row table one two => ∃ j : Nat, ixR o i = nI j ∧ j < 360 ∧ K (.long (ro j).toInt64 :: r) G)
    | false => False)
  | _ => False
theorem oAt_ok {l : Launch} {cc : ByteArray} {R : Room} {ret : Option FieldType} {post : Option Value → List xE → Prop} {nL : Nat} {X : Nat → List (Option Value) → List Value → List xE → Prop} (hX : xR l RX11 cc R ret post nL X) (hR : rX11_at.frames + 1 ≤ R.frames ∧ 8 + (3 + 11) + rX11_at.locals ≤ R.locals)  : xHq cc X (156, oAt ) := by
  intro pc lv st G K ix hd hk h
  rcases hd with ⟨e, hd⟩ | ⟨e, hd⟩
  · have e : 156 = 2 * ix := e
    have : ix = 78 := by omega
    subst this
    unfold oAt at h
    dsimp only at h
    split at h
    next =>
      split at h
      next hr =>
        simp only [Bool.and_eq_true] at hr
        obtain ⟨hk0, hr⟩ := hr
        have hk0 := Nat.eq_of_beq_eq_true hk0
        subst hk0
        obtain ⟨n, nm, ng, ns, ngr, pp, ab, be, so, ro, tb, gv, sd, gr, row, table, one, two, rfl, h⟩ := xGRm_ok h
        obtain ⟨j, hp, hj, h⟩ := h
        refine hX.callV0 (c_at l n nm ng ns ngr pp ab be so ro tb gv sd gr row table one two _ _ j hp hj) yX11_at_ok lkX11_78 ivX11_at slX11_at ⟨rfl, rfl, hR.1, hR.2⟩ hd rfl rfl (xrs_ok hr) rfl rfl rfl (fun _ _ q => by rw [q.2]) (fun r' G1 q => ?_)
        obtain ⟨rfl, rfl⟩ := q
        exact hk _ _ h
      next => exact h.elim
    next => exact h.elim
  · have e : 156 = 2 * ix + 1 := e
    omega
set_option maxHeartbeats 4000000 in
set_option maxRecDepth 100000 in
/-- in(v, low, high) -/
theorem c_in (l : Launch) (v lo hi : Int64) : xM l yX11_in cX11_in 6 (some .boolean) rX11_in [.long v, .long lo, .long hi] [] (fun r G => ((lo ≤ v ∧ v ≤ hi) → r = some (.int 1)) ∧ (¬ (lo ≤ v ∧ v ≤ hi) → r = some (.int 0)) ∧ G = []) := by
  refine xM.of (by decide) (Nat.le_of_ble_eq_true rfl) (fun X hX => ?_)
  refine hX.run (oc := []) kX11_in_ok ftX11_ok ctX11_ok xnoc [] [] [] 40 ?_
  refine ⟨fun h => ?_, fun h => ?_⟩
  · have h0 : v < lo := lgc_lt.mp h
    have h1 : ¬ lo ≤ v := by rw [Int64.le_iff_toInt_le]; rw [Int64.lt_iff_toInt_lt] at h0; omega
    exact ⟨rfl, fun q => absurd q.1 h1, fun _ => rfl, rfl⟩
  · have h0 : ¬ v < lo := fun q => h (lgc_lt.mpr q)
    have h1 : lo ≤ v := by rw [Int64.le_iff_toInt_le]; rw [Int64.lt_iff_toInt_lt] at h0; omega
    refine ⟨fun h => ?_, fun h => ?_⟩
    · have h2 : hi < v := lgc_gt.mp h
      have h3 : ¬ v ≤ hi := by rw [Int64.le_iff_toInt_le]; rw [Int64.lt_iff_toInt_lt] at h2; omega
      exact ⟨rfl, fun q => absurd q.2 h3, fun _ => rfl, rfl⟩
    · have h2 : ¬ hi < v := fun q => h (lgc_gt.mpr q)
      have h3 : v ≤ hi := by rw [Int64.le_iff_toInt_le]; rw [Int64.lt_iff_toInt_lt] at h2; omega
      exact ⟨rfl, fun _ => rfl, fun q => absurd ⟨h1, h3⟩ q, rfl⟩
def oIn : xH := fun st G K => match st with
  | .long hi :: .long lo :: .long v :: r => (match xrs r 8 with
    | true => ((lo ≤ v ∧ v ≤ hi) → K (.int 1 :: r) G) ∧ (¬ (lo ≤ v ∧ v ≤ hi) → K (.int 0 :: r) G)
    | false => False)
  | _ => False
theorem oIn_ok {l : Launch} {cc : ByteArray} {R : Room} {ret : Option FieldType} {post : Option Value → List xE → Prop} {nL : Nat} {X : Nat → List (Option Value) → List Value → List xE → Prop} (hX : xR l RX11 cc R ret post nL X) (hR : rX11_in.frames + 1 ≤ R.frames ∧ 8 + (6 + 11) + rX11_in.locals ≤ R.locals) : xHq cc X (125, oIn) := by
  intro pc lv st G K ix hd hk h
  rcases hd with ⟨e, hd⟩ | ⟨e, hd⟩
  · have e : 125 = 2 * ix := e
    omega
  · have e : 125 = 2 * ix + 1 := e
    have : ix = 62 := by omega
    subst this
    unfold oIn at h
    dsimp only at h
    split at h
    next hi lo v r =>
      split at h
      next hr =>
        refine hX.callS [] r (c_in l v lo hi) yX11_in_ok lkX11_62 ssX11_in ⟨rfl, rfl, hR.1, hR.2⟩ hd rfl rfl (xrs_ok hr) trivial rfl (fun _ _ q => by rw [q.2.2]) (fun r' G1 q => ?_)
        obtain ⟨q1, q2, rfl⟩ := q
        by_cases hc : lo ≤ v ∧ v ≤ hi
        · rw [q1 hc]; exact hk _ _ (h.1 hc)
        · rw [q2 hc]; exact hk _ _ (h.2 hc)
      next => exact h.elim
    next => exact h.elim
