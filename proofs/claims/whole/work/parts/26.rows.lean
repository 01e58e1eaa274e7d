/-! sizes -/
def ab (z A : Int) : Prop := -A ≤ z ∧ z ≤ A
theorem ab_nat {z A : Int} : ab z A ↔ (z.natAbs : Int) ≤ A := by unfold ab; omega
theorem ab_mul {a A b B : Int} (ha : ab a A) (hb : ab b B) : ab (a * b) (A * B) := by
  rw [ab_nat] at ha hb ⊢
  rw [Int.natAbs_mul, Int.natCast_mul]
  exact Int.mul_le_mul ha hb (by omega) (by omega)
theorem ab_add {a A b B : Int} (ha : ab a A) (hb : ab b B) : ab (a + b) (A + B) := ⟨by have := ha.1; have := hb.1; omega, by have := ha.2; have := hb.2; omega⟩
theorem ab_sub {a A b B : Int} (ha : ab a A) (hb : ab b B) : ab (a - b) (A + B) := ⟨by have := ha.1; have := hb.2; omega, by have := ha.2; have := hb.1; omega⟩
theorem ab_neg {a A : Int} (ha : ab a A) : ab (-a) A := ⟨by have := ha.2; omega, by have := ha.1; omega⟩
theorem ab_jr {a A : Int} (ha : ab a A) (h : A < 9223372036854775808) : jr a := ⟨by have := ha.1; omega, by have := ha.2; omega⟩
theorem ab_le {a A B : Int} (ha : ab a A) (h : A ≤ B) : ab a B := ⟨by have := ha.1; omega, by have := ha.2; omega⟩
def crs (u v : Nat → Int) (i : Nat) : Int := u ((i + 1) % 3) * v ((i + 2) % 3) - u ((i + 2) % 3) * v ((i + 1) % 3)
def dt3 (u v : Nat → Int) : Int := u 0 * v 0 + u 1 * v 1 + u 2 * v 2
theorem wid3 (s i : Nat) (h : i < 3) : i < wid s := by unfold wid; split <;> omega
theorem RO.bd {S : SO} {so ro : Nat → Int32} (h : RO S so ro) {k i : Nat} (hk : k < S.1) (hi : i < wid (S.2.1 k)) : ab (S.2.2 k i) 500 := (h.2.2 k i hk hi).2
theorem crs_bd {u v : Nat → Int} (hu : ∀ i, i < 3 → ab (u i) 500) (hv : ∀ i, i < 3 → ab (v i) 500) (i : Nat) : ab (crs u v i) 500000 := by
  have h1 := Nat.mod_lt (i + 1) (show 0 < 3 by omega)
  have h2 := Nat.mod_lt (i + 2) (show 0 < 3 by omega)
  exact ab_le (ab_sub (ab_mul (hu _ h1) (hv _ h2)) (ab_mul (hu _ h2) (hv _ h1))) (by omega)
theorem RO.crs {S : SO} {so ro : Nat → Int32} (h : RO S so ro) {a b : Nat} (ha : a < S.1) (hb : b < S.1) (i : Nat) : ab (crs (S.2.2 a) (S.2.2 b) i) 500000 := crs_bd (fun j hj => h.bd ha (wid3 _ j hj)) (fun j hj => h.bd hb (wid3 _ j hj)) i
set_option maxHeartbeats 4000000 in
set_option maxRecDepth 100000 in
/-- crossOf(p, q) -/
theorem c_crossOf (l : Launch) (nm ng ns ngr : Int32) (pp ab be : Int64) (so ro tb gv sd gr : Nat → Int32) (row table one two : Nat → Int64) (S : SO) (hS : RO S so ro) (a b : Nat) (ha : a < S.1) (hb : b < S.1) : xM l yX11_crossOf cX11_crossOf 6 (none : Option FieldType) rX11_crossOf [.ref 0, .int (nI a), .int (nI b)] (GR (nI S.1) nm ng ns ngr pp ab be so ro tb gv sd gr row table one two) (fun r G => r = none ∧ G = GR (nI S.1) nm ng ns ngr pp ab be so ro tb gv sd gr (fun i => zl (if i < 3 then crs (S.2.2 a) (S.2.2 b) i else (row i).toInt)) table one two) := by
  refine xM.of (by decide) (Nat.le_of_ble_eq_true rfl) (fun X hX => ?_)
  have hoc := xoc1 (oAtS_ok hX (by decide) hS) xnoc
  refine hX.run (oc := [(156, oAtS S ro)]) kX11_crossOf_ok ftX11_ok ctX11_ok hoc [64] [4] [] 140 ?_
  refine ⟨rfl, a, rfl, ⟨ha, wid3 _ _ (by decide)⟩, ?_⟩
  refine ⟨rfl, b, rfl, ⟨hb, wid3 _ _ (by decide)⟩, ?_⟩
  refine ⟨rfl, a, rfl, ⟨ha, wid3 _ _ (by decide)⟩, ?_⟩
  refine ⟨rfl, b, rfl, ⟨hb, wid3 _ _ (by decide)⟩, ?_⟩
  refine ⟨rfl, a, rfl, ⟨ha, wid3 _ _ (by decide)⟩, ?_⟩
  refine ⟨rfl, b, rfl, ⟨hb, wid3 _ _ (by decide)⟩, ?_⟩
  refine ⟨rfl, a, rfl, ⟨ha, wid3 _ _ (by decide)⟩, ?_⟩
  refine ⟨rfl, b, rfl, ⟨hb, wid3 _ _ (by decide)⟩, ?_⟩
  refine ⟨rfl, a, rfl, ⟨ha, wid3 _ _ (by decide)⟩, ?_⟩
  refine ⟨rfl, b, rfl, ⟨hb, wid3 _ _ (by decide)⟩, ?_⟩
  refine ⟨rfl, a, rfl, ⟨ha, wid3 _ _ (by decide)⟩, ?_⟩
  refine ⟨rfl, b, rfl, ⟨hb, wid3 _ _ (by decide)⟩, ?_⟩
  refine hX.alike (G2 := GR (nI S.1) nm ng ns ngr pp ab be so ro tb gv sd gr (fun i => zl (if i < 3 then crs (S.2.2 a) (S.2.2 b) i else (row i).toInt)) table one two) ?_ ⟨xsame_rf _, xsame_rf _, xsame_rf _, xsame_rf _, xsame_rf _, xsame_rf _, xsame_rf _, ⟨rfl, fun i hi => ?_⟩, xsame_rf _, xsame_rf _, xsame_rf _, trivial⟩
  · refine hX.run (oc := [(156, oAtS S ro)]) kX11_crossOf_ok ftX11_ok ctX11_ok hoc [] [] [] 10 ?_
    exact ⟨rfl, rfl⟩
  · unfold vp_updL
    dsimp only
    simp only [zl_mul, zl_sub]
    by_cases h2 : i = 2
    · subst h2; rfl
    by_cases h1 : i = 1
    · subst h1; rfl
    by_cases h0 : i = 0
    · subst h0; rfl
    rw [if_neg h2, if_neg h1, if_neg h0, if_neg (by omega)]
    exact (zl_of _).symm
set_option maxHeartbeats 4000000 in
set_option maxRecDepth 100000 in
/-- dot(p, l) -/
theorem c_dot (l : Launch) (nm ng ns ngr : Int32) (pp ab be : Int64) (so ro tb gv sd gr : Nat → Int32) (row table one two : Nat → Int64) (S : SO) (hS : RO S so ro) (a b : Nat) (ha : a < S.1) (hb : b < S.1) : xM l yX11_dot cX11_dot 3 (some .long) rX11_dot [.ref 0, .int (nI a), .int (nI b)] (GR (nI S.1) nm ng ns ngr pp ab be so ro tb gv sd gr row table one two) (fun r G => r = some (.long (zl (dt3 (S.2.2 a) (S.2.2 b)))) ∧ G = GR (nI S.1) nm ng ns ngr pp ab be so ro tb gv sd gr row table one two) := by
  refine xM.of (by decide) (Nat.le_of_ble_eq_true rfl) (fun X hX => ?_)
  have hoc := xoc1 (oAtS_ok hX (by decide) hS) xnoc
  refine hX.run (oc := [(156, oAtS S ro)]) kX11_dot_ok ftX11_ok ctX11_ok hoc [] [] [] 60 ?_
  refine ⟨rfl, a, rfl, ⟨ha, wid3 _ _ (by decide)⟩, ?_⟩
  refine ⟨rfl, b, rfl, ⟨hb, wid3 _ _ (by decide)⟩, ?_⟩
  refine ⟨rfl, a, rfl, ⟨ha, wid3 _ _ (by decide)⟩, ?_⟩
  refine ⟨rfl, b, rfl, ⟨hb, wid3 _ _ (by decide)⟩, ?_⟩
  refine ⟨rfl, a, rfl, ⟨ha, wid3 _ _ (by decide)⟩, ?_⟩
  refine ⟨rfl, b, rfl, ⟨hb, wid3 _ _ (by decide)⟩, ?_⟩
  refine ⟨?_, rfl⟩
  simp only [zl_mul, zl_add]
  rfl
set_option maxHeartbeats 4000000 in
set_option maxRecDepth 100000 in
/-- part(p, q, i) -/
theorem c_part (l : Launch) (nm ng ns ngr : Int32) (pp ab be : Int64) (so ro tb gv sd gr : Nat → Int32) (row table one two : Nat → Int64) (S : SO) (hS : RO S so ro) (a b i : Nat) (ha : a < S.1) (hb : b < S.1) (hi : i < 3) : xM l yX11_part cX11_part 6 (some .long) rX11_part [.ref 0, .int (nI a), .int (nI b), .int (nI i)] (GR (nI S.1) nm ng ns ngr pp ab be so ro tb gv sd gr row table one two) (fun r G => r = some (.long (zl (crs (S.2.2 a) (S.2.2 b) i))) ∧ G = GR (nI S.1) nm ng ns ngr pp ab be so ro tb gv sd gr row table one two) := by
  refine xM.of (by decide) (Nat.le_of_ble_eq_true rfl) (fun X hX => ?_)
  have hoc := xoc1 (oAtS_ok hX (by decide) hS) xnoc
  rcases (show i = 0 ∨ i = 1 ∨ i = 2 by omega) with rfl | rfl | rfl
  · refine hX.run (oc := [(156, oAtS S ro)]) kX11_part_ok ftX11_ok ctX11_ok hoc [] [] [] 60 ?_
    refine ⟨rfl, a, rfl, ⟨ha, wid3 _ _ (by decide)⟩, ?_⟩
    refine ⟨rfl, b, rfl, ⟨hb, wid3 _ _ (by decide)⟩, ?_⟩
    refine ⟨rfl, a, rfl, ⟨ha, wid3 _ _ (by decide)⟩, ?_⟩
    refine ⟨rfl, b, rfl, ⟨hb, wid3 _ _ (by decide)⟩, ?_⟩
    refine ⟨?_, rfl⟩
    simp only [zl_mul, zl_sub]
    rfl
  · refine hX.run (oc := [(156, oAtS S ro)]) kX11_part_ok ftX11_ok ctX11_ok hoc [] [] [] 60 ?_
    refine ⟨rfl, a, rfl, ⟨ha, wid3 _ _ (by decide)⟩, ?_⟩
    refine ⟨rfl, b, rfl, ⟨hb, wid3 _ _ (by decide)⟩, ?_⟩
    refine ⟨rfl, a, rfl, ⟨ha, wid3 _ _ (by decide)⟩, ?_⟩
    refine ⟨rfl, b, rfl, ⟨hb, wid3 _ _ (by decide)⟩, ?_⟩
    refine ⟨?_, rfl⟩
    simp only [zl_mul, zl_sub]
    rfl
  · refine hX.run (oc := [(156, oAtS S ro)]) kX11_part_ok ftX11_ok ctX11_ok hoc [] [] [] 60 ?_
    refine ⟨rfl, a, rfl, ⟨ha, wid3 _ _ (by decide)⟩, ?_⟩
    refine ⟨rfl, b, rfl, ⟨hb, wid3 _ _ (by decide)⟩, ?_⟩
    refine ⟨rfl, a, rfl, ⟨ha, wid3 _ _ (by decide)⟩, ?_⟩
    refine ⟨rfl, b, rfl, ⟨hb, wid3 _ _ (by decide)⟩, ?_⟩
    refine ⟨?_, rfl⟩
    simp only [zl_mul, zl_sub]
    rfl
def oPart (S : SO) (so ro : Nat → Int32) : xH := fun st G K => match st with
  | .int i :: .int q :: .int p :: .ref k0 :: r => (match Nat.beq k0 0 && xrs r 8 with
    | true => xGRm G (fun n _ _ _ _ _ _ _ so2 ro2 _ _ _ _ _ _ _ _ => (n = nI S.1 ∧ so2 = so ∧ ro2 = ro) ∧ ∃ a b : Nat, p = nI a ∧ q = nI b ∧ xidx false i 3 (fun i => (a < S.1 ∧ b < S.1) ∧ K (.long (zl (crs (S.2.2 a) (S.2.2 b) i)) :: r) G))
    | false => False)
  | _ => False
theorem oPart_ok {l : Launch} {cc : ByteArray} {R : Room} {ret : Option FieldType} {post : Option Value → List xE → Prop} {nL : Nat} {X : Nat → List (Option Value) → List Value → List xE → Prop} (hX : xR l RX11 cc R ret post nL X) (hR : rX11_part.frames + 1 ≤ R.frames ∧ 8 + (6 + 11) + rX11_part.locals ≤ R.locals) {S : SO} {so ro : Nat → Int32} (hS : RO S so ro) : xHq cc X (190, oPart S so ro) := by
  intro pc lv st G K ix hd hk h
  rcases hd with ⟨e, hd⟩ | ⟨e, hd⟩
  · have e : 190 = 2 * ix := e
    have : ix = 95 := by omega
    subst this
    unfold oPart at h
    dsimp only at h
    split at h
    next i q p k0 r =>
      split at h
      next hr =>
        simp only [Bool.and_eq_true] at hr
        obtain ⟨hk0, hr⟩ := hr
        have hk0 := Nat.eq_of_beq_eq_true hk0
        subst hk0
        obtain ⟨n9, nm9, ng9, ns9, ngr9, pp9, ab9, be9, so9, ro9, tb9, gv9, sd9, gr9, row9, table9, one9, two9, rfl, h9⟩ := xGRm_ok h
        clear h
        obtain ⟨⟨rfl, rfl, rfl⟩, a, b, rfl, rfl, h⟩ := h9
        obtain ⟨hi, ⟨h1, h2⟩, h⟩ := xidx_of h
        obtain ⟨e1, e2⟩ := xin_nI hi
        have hc := c_part l nm9 ng9 ns9 ngr9 pp9 ab9 be9 so9 ro9 tb9 gv9 sd9 gr9 row9 table9 one9 two9 S hS a b i.toNatClampNeg h1 h2 e2
        rw [← e1] at hc
        refine hX.callV0 hc yX11_part_ok lkX11_95 ivX11_part slX11_part ⟨rfl, rfl, hR.1, hR.2⟩ hd rfl rfl (xrs_ok hr) rfl rfl rfl (fun _ _ q => by rw [q.2]) (fun r9 G1 q => ?_)
        obtain ⟨rfl, rfl⟩ := q
        exact hk _ _ h
      next => exact h.elim
    next => exact h.elim
  · have e : 190 = 2 * ix + 1 := e
    omega
/-- three points on one line: the determinant -/
def dt9 (u v w : Nat → Int) : Int := u 0 * crs v w 0 + u 1 * crs v w 1 + u 2 * crs v w 2
set_option maxHeartbeats 4000000 in
set_option maxRecDepth 100000 in
/-- areInLine(p, q, r) -/
theorem c_areInLine (l : Launch) (nm ng ns ngr : Int32) (pp ab be : Int64) (so ro tb gv sd gr : Nat → Int32) (row table one two : Nat → Int64) (S : SO) (hS : RO S so ro) (a b d : Nat) (ha : a < S.1) (hb : b < S.1) (hd : d < S.1) : xM l yX11_areInLine cX11_areInLine 7 (some .boolean) rX11_areInLine [.ref 0, .int (nI a), .int (nI b), .int (nI d)] (GR (nI S.1) nm ng ns ngr pp ab be so ro tb gv sd gr row table one two) (fun r G => r = some (.int (bI (decide (dt9 (S.2.2 a) (S.2.2 b) (S.2.2 d) = 0)))) ∧ G = GR (nI S.1) nm ng ns ngr pp ab be so ro tb gv sd gr row table one two) := by
  refine xM.of (by decide) (Nat.le_of_ble_eq_true rfl) (fun X hX => ?_)
  have hoc := xoc1 (oAtS_ok hX (by decide) hS) (xoc1 (oPart_ok hX (by decide) hS) xnoc)
  have j : jr (dt9 (S.2.2 a) (S.2.2 b) (S.2.2 d)) := ab_jr (ab_add (ab_add (ab_mul (hS.bd ha (wid3 _ 0 (by omega))) (hS.crs hb hd 0)) (ab_mul (hS.bd ha (wid3 _ 1 (by omega))) (hS.crs hb hd 1))) (ab_mul (hS.bd ha (wid3 _ 2 (by omega))) (hS.crs hb hd 2))) (by decide)
  refine hX.run (oc := [(156, oAtS S ro), (190, oPart S so ro)]) kX11_areInLine_ok ftX11_ok ctX11_ok hoc [] [9] [] 120 ?_
  refine ⟨rfl, a, rfl, ⟨ha, wid3 _ _ (by decide)⟩, ?_⟩
  refine ⟨⟨rfl, rfl, rfl⟩, b, d, rfl, rfl, ⟨hb, hd⟩, ?_⟩
  refine ⟨rfl, a, rfl, ⟨ha, wid3 _ _ (by decide)⟩, ?_⟩
  refine ⟨⟨rfl, rfl, rfl⟩, b, d, rfl, rfl, ⟨hb, hd⟩, ?_⟩
  refine ⟨rfl, a, rfl, ⟨ha, wid3 _ _ (by decide)⟩, ?_⟩
  refine ⟨⟨rfl, rfl, rfl⟩, b, d, rfl, rfl, ⟨hb, hd⟩, ?_⟩
  have e : ∀ v w : Int64, v = zl 0 → w = v + zl (S.2.2 a 0) * zl (crs (S.2.2 b) (S.2.2 d) 0) + zl (S.2.2 a 1) * zl (crs (S.2.2 b) (S.2.2 d) 1) + zl (S.2.2 a 2) * zl (crs (S.2.2 b) (S.2.2 d) 2) → w = zl (dt9 (S.2.2 a) (S.2.2 b) (S.2.2 d)) := by
    rintro v w rfl rfl
    simp only [zl_mul, zl_add]
    congr 1
    unfold dt9
    omega
  refine ⟨fun h => ?_, fun h => ?_⟩
  · have h2 : zl (dt9 (S.2.2 a) (S.2.2 b) (S.2.2 d)) = zl 0 := (e _ _ rfl rfl).symm.trans (lgc_eq.mp h)
    rw [zl_eq j ⟨by omega, by omega⟩] at h2
    refine ⟨rfl, ?_, rfl⟩
    rw [decide_eq_true h2]; rfl
  · have h2 : ¬ zl (dt9 (S.2.2 a) (S.2.2 b) (S.2.2 d)) = zl 0 := fun q => h (lgc_eq.mpr ((e _ _ rfl rfl).trans q))
    rw [zl_eq j ⟨by omega, by omega⟩] at h2
    refine ⟨rfl, ?_, rfl⟩
    rw [decide_eq_false h2]; rfl
