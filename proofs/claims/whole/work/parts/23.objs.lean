theorem jr5 {z : Int} (h : -500 ≤ z ∧ z ≤ 500) : jr z := ⟨by omega, by omega⟩
/-- an object's number of a sort -/
def isS (S : SO) (k s : Int32) : Prop := ∃ j : Nat, j < S.1 ∧ k = nI j ∧ nI (S.2.1 j) = s
theorem ge_nI {x : Int32} {N : Nat} (hN : N < 2147483648) (h0 : ¬ x < 0) (h : ¬ nI N ≤ x) : ∃ j, j < N ∧ x = nI j := by
  rcases pk_ix x (n := N) (by omega) with h1 | h1 | h1
  · exact absurd h1 h0
  · exact absurd h1 h
  · exact h1
theorem lt0_nI {j : Nat} (h : j < 2147483648) : ¬ nI j < 0 := nI_pos (by omega)
set_option maxHeartbeats 4000000 in
set_option maxRecDepth 100000 in
theorem c_isSort (l : Launch) (nm ng ns ngr : Int32) (pp ab be : Int64) (so ro tb gv sd gr : Nat → Int32) (row table one two : Nat → Int64) (S : SO) (hN : S.1 ≤ 60) (hso : ∀ k, k < S.1 → so k = nI (S.2.1 k)) (k s : Int32) : xM l yX11_isSort cX11_isSort 3 (some .boolean) rX11_isSort [.ref 0, .int k, .int s] (GR (nI S.1) nm ng ns ngr pp ab be so ro tb gv sd gr row table one two) (fun r G => ((isS S k s → r = some (.int 1)) ∧ (¬ isS S k s → r = some (.int 0))) ∧ G = GR (nI S.1) nm ng ns ngr pp ab be so ro tb gv sd gr row table one two) := by
  refine xM.of (by decide) (Nat.le_of_ble_eq_true rfl) (fun X hX => ?_)
  refine hX.run (oc := []) kX11_isSort_ok ftX11_ok ctX11_ok xnoc [] [] [17] 40 ?_
  refine ⟨fun h => ?_, fun h0 => ?_⟩
  · have hn : ¬ isS S k s := by
      rintro ⟨j, h1, rfl, -⟩
      exact lt0_nI (by omega) h
    exact ⟨rfl, ⟨fun q => absurd q hn, fun _ => rfl⟩, rfl⟩
  · refine ⟨fun h => ?_, fun h => ?_⟩
    · have hn : ¬ isS S k s := by
        rintro ⟨j, h1, rfl, -⟩
        exact nI_ge h1 (by omega) h
      exact ⟨rfl, ⟨fun q => absurd q hn, fun _ => rfl⟩, rfl⟩
    · obtain ⟨j, hj, rfl⟩ := ge_nI (by omega) h0 h
      refine ⟨j, rfl, by omega, by omega, ?_⟩
      have e := hso j hj
      refine ⟨fun h => ?_, fun h => ?_⟩
      · have h1 : so j = s := h
        rw [e] at h1
        exact ⟨rfl, ⟨fun _ => rfl, fun q => absurd ⟨j, hj, rfl, h1⟩ q⟩, rfl⟩
      · have hn : ¬ isS S (nI j) s := by
          rintro ⟨j2, h1, h2, h3⟩
          have : j2 = j := ((nI_eq (by omega) (by omega)).mp h2).symm
          subst this
          exact h (by rw [e]; exact h3)
        exact ⟨rfl, ⟨fun q => absurd q hn, fun _ => rfl⟩, rfl⟩
def oSort (S : SO) (so : Nat → Int32) : xH := fun st G K => match st with
  | .int s :: .int k :: .ref k0 :: r => (match Nat.beq k0 0 && xrs r 8 with
    | true => xGRm G (fun n _ _ _ _ _ _ _ so2 _ _ _ _ _ _ _ _ _ => (n = nI S.1 ∧ so2 = so) ∧ (isS S k s → K (.int 1 :: r) G) ∧ (¬ isS S k s → K (.int 0 :: r) G))
    | false => False)
  | _ => False
theorem oSort_ok {l : Launch} {cc : ByteArray} {R : Room} {ret : Option FieldType} {post : Option Value → List xE → Prop} {nL : Nat} {X : Nat → List (Option Value) → List Value → List xE → Prop} (hX : xR l RX11 cc R ret post nL X) (hR : rX11_isSort.frames + 1 ≤ R.frames ∧ 8 + (3 + 11) + rX11_isSort.locals ≤ R.locals) {S : SO} {so ro : Nat → Int32} (hS : RO S so ro) : xHq cc X (164, oSort S so) := by
  intro pc lv st G K ix hd hk h
  rcases hd with ⟨e, hd⟩ | ⟨e, hd⟩
  · have e : 164 = 2 * ix := e
    have : ix = 82 := by omega
    subst this
    unfold oSort at h
    dsimp only at h
    split at h
    next s k k0 r =>
      split at h
      next hr =>
        simp only [Bool.and_eq_true] at hr
        obtain ⟨hk0, hr⟩ := hr
        have hk0 := Nat.eq_of_beq_eq_true hk0
        subst hk0
        obtain ⟨n9, nm9, ng9, ns9, ngr9, pp9, ab9, be9, so9, ro9, tb9, gv9, sd9, gr9, row9, table9, one9, two9, rfl, h9⟩ := xGRm_ok h
        clear h
        obtain ⟨⟨rfl, rfl⟩, h⟩ := h9
        refine hX.callV0 (c_isSort l nm9 ng9 ns9 ngr9 pp9 ab9 be9 so9 ro9 tb9 gv9 sd9 gr9 row9 table9 one9 two9 S hS.1 (fun k hk => (hS.2.1 k hk).1) _ _) yX11_isSort_ok lkX11_82 ivX11_isSort slX11_isSort ⟨rfl, rfl, hR.1, hR.2⟩ hd rfl rfl (xrs_ok hr) rfl rfl rfl (fun _ _ q => by rw [q.2]) (fun r9 G1 q => ?_)
        obtain ⟨⟨q1, q2⟩, rfl⟩ := q
        by_cases hc : isS S k s
        · rw [q1 hc]; exact hk _ _ (h.1 hc)
        · rw [q2 hc]; exact hk _ _ (h.2 hc)
      next => exact h.elim
    next => exact h.elim
  · have e : 164 = 2 * ix + 1 := e
    omega
theorem xin_nI {i : Int32} {n : Nat} (h : xin i n = true) : i = nI i.toNatClampNeg ∧ i.toNatClampNeg < n := by
  unfold xin at h
  simp only [Bool.and_eq_true, Bool.not_eq_true', decide_eq_false_iff_not, decide_eq_true_eq] at h
  obtain ⟨j, h1, rfl⟩ := nI_of h.1
  rw [nI_clamp h1] at h ⊢
  exact ⟨rfl, h.2⟩
def oAtS (S : SO) (ro : Nat → Int32) : xH := fun st G K => match st with
  | .int i :: .int k :: .ref k0 :: r => (match Nat.beq k0 0 && xrs r 8 with
    | true => xGRm G (fun _ _ _ _ _ _ _ _ _ ro2 _ _ _ _ _ _ _ _ => ro2 = ro ∧ ∃ j : Nat, k = nI j ∧ xidx false i 9 (fun i => (j < S.1 ∧ i < wid (S.2.1 j)) ∧ K (.long (zl (S.2.2 j i)) :: r) G))
    | false => False)
  | _ => False
theorem oAtS_ok {l : Launch} {cc : ByteArray} {R : Room} {ret : Option FieldType} {post : Option Value → List xE → Prop} {nL : Nat} {X : Nat → List (Option Value) → List Value → List xE → Prop} (hX : xR l RX11 cc R ret post nL X) (hR : rX11_at.frames + 1 ≤ R.frames ∧ 8 + (3 + 11) + rX11_at.locals ≤ R.locals) {S : SO} {so ro : Nat → Int32} (hS : RO S so ro) : xHq cc X (156, oAtS S ro) := by
  intro pc lv st G K ix hd hk h
  rcases hd with ⟨e, hd⟩ | ⟨e, hd⟩
  · have e : 156 = 2 * ix := e
    have : ix = 78 := by omega
    subst this
    unfold oAtS at h
    dsimp only at h
    split at h
    next i k k0 r =>
      split at h
      next hr =>
        simp only [Bool.and_eq_true] at hr
        obtain ⟨hk0, hr⟩ := hr
        have hk0 := Nat.eq_of_beq_eq_true hk0
        subst hk0
        obtain ⟨n9, nm9, ng9, ns9, ngr9, pp9, ab9, be9, so9, ro9, tb9, gv9, sd9, gr9, row9, table9, one9, two9, rfl, h9⟩ := xGRm_ok h
        clear h
        obtain ⟨rfl, j, rfl, h⟩ := h9
        obtain ⟨hi, ⟨h1, h2⟩, h⟩ := xidx_of h
        obtain ⟨e1, e2⟩ := xin_nI hi
        obtain ⟨q1, q2⟩ := hS.2.2 j _ h1 h2
        have hN := hS.1
        have hw := wid_le (S.2.1 j)
        refine hX.callV0 (c_at l n9 nm9 ng9 ns9 ngr9 pp9 ab9 be9 so9 ro9 tb9 gv9 sd9 gr9 row9 table9 one9 two9 (nI j) i (6 * j + i.toNatClampNeg) (by rw [e1, nI_clamp (by omega)]; exact ixR_nI j _) (by omega)) yX11_at_ok lkX11_78 ivX11_at slX11_at ⟨rfl, rfl, hR.1, hR.2⟩ hd rfl rfl (xrs_ok hr) rfl rfl rfl (fun _ _ q => by rw [q.2]) (fun r9 G1 q => ?_)
        obtain ⟨rfl, rfl⟩ := q
        rw [q1, zl_i (by omega)]
        exact hk _ _ h
      next => exact h.elim
    next => exact h.elim
  · have e : 156 = 2 * ix + 1 := e
    omega
