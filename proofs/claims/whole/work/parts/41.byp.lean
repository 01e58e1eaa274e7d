def plc (p : Int) (S : SO) (V : SV) (i a : Nat) : Int := (gq S V i a % p) * invp p (gq S V i 2) % p
theorem rz_inv {p : Int} (hp : pok p) (z : Int) : rz p (invp p z) := rz_mod hp _
def oPlace (p : Int) (S : SO) (V : SV) (so ro gv : Nat → Int32) : xH := fun st G K => match st with
  | .int a :: .int i :: .ref k0 :: r => (match Nat.beq k0 0 && xrs r 10 with
    | true => xGRm G (fun n _ ng _ _ pp _ _ so2 ro2 _ gv2 _ _ _ _ _ _ => (n = nI S.1 ∧ ng = nI V.1 ∧ pp = zl p ∧ so2 = so ∧ ro2 = ro ∧ gv2 = gv) ∧ ∃ i' a' : Nat, i = nI i' ∧ a = nI a' ∧ (i' < V.1 ∧ a' < 2) ∧ K (.long (zl (plc p S V i' a')) :: r) G)
    | false => False)
  | _ => False
set_option maxHeartbeats 4000000 in
set_option maxRecDepth 100000 in
theorem c_place (l : Launch) (nm ns ngr : Int32) (av be : Int64) (so ro tb gv sd gr : Nat → Int32) (row table one two : Nat → Int64) (p : Int) (hp : pok p) (S : SO) (V : SV) (hS : RO S so ro) (hV : RV 8 S.1 V gv) (i a : Nat) (hi : i < V.1) (ha : a < 2) : xM l yX11_place cX11_place 3 (some .long) rX11_place [.ref 0, .int (nI i), .int (nI a)] (GR (nI S.1) nm (nI V.1) ns ngr (zl p) av be so ro tb gv sd gr row table one two) (fun r G => r = some (.long (zl (plc p S V i a))) ∧ G = GR (nI S.1) nm (nI V.1) ns ngr (zl p) av be so ro tb gv sd gr row table one two) := by
  refine xM.of (by decide) (Nat.le_of_ble_eq_true rfl) (fun X hX => ?_)
  have hoc := xoc1 (oAtS_ok hX (by decide) hS) (xoc1 (oMod_ok hX (by decide) hp) (xoc1 (oInv_ok hX (by decide) hp) xnoc))
  have hV8 := hV.1
  obtain ⟨hg, hl⟩ := hV.2 i hi
  have jq : ∀ t, t < 3 → jr (gq S V i t) := fun t ht => ab_jr (gq_bd hS hV hi ht) (by decide)
  rcases (show a = 0 ∨ a = 1 by omega) with rfl | rfl
  · refine hX.run (oc := [(156, oAtS S ro), (280, oMod p), (300, oInv p)]) kX11_place_ok ftX11_ok ctX11_ok hoc [] [] [7, 22] 60 ?_
    refine ⟨i, rfl, by omega, by omega, ?_⟩
    refine ⟨rfl, V.2 i, hg, ⟨hl, wid3 _ _ (by decide)⟩, ?_⟩
    refine ⟨rfl, gq S V i 0, rfl, jq 0 (by omega), ?_⟩
    refine ⟨i, rfl, by omega, by omega, ?_⟩
    refine ⟨rfl, V.2 i, hg, ⟨hl, wid3 _ _ (by decide)⟩, ?_⟩
    refine ⟨rfl, gq S V i 2, rfl, jq 2 (by omega), ?_⟩
    refine ⟨pok_ne hp, ?_⟩
    refine ⟨congrArg (fun x => some (Value.long x)) (zl_rm hp (zl_mul _ _) ?_ ?_), rfl⟩
    · exact (rz_mul hp (rz_mod hp _) (rz_inv hp _)).1
    · have := (rz_mul hp (rz_mod hp (gq S V i 0)) (rz_inv hp (gq S V i 2))).2
      omega
  · refine hX.run (oc := [(156, oAtS S ro), (280, oMod p), (300, oInv p)]) kX11_place_ok ftX11_ok ctX11_ok hoc [] [] [7, 22] 60 ?_
    refine ⟨i, rfl, by omega, by omega, ?_⟩
    refine ⟨rfl, V.2 i, hg, ⟨hl, wid3 _ _ (by decide)⟩, ?_⟩
    refine ⟨rfl, gq S V i 1, rfl, jq 1 (by omega), ?_⟩
    refine ⟨i, rfl, by omega, by omega, ?_⟩
    refine ⟨rfl, V.2 i, hg, ⟨hl, wid3 _ _ (by decide)⟩, ?_⟩
    refine ⟨rfl, gq S V i 2, rfl, jq 2 (by omega), ?_⟩
    refine ⟨pok_ne hp, ?_⟩
    refine ⟨congrArg (fun x => some (Value.long x)) (zl_rm hp (zl_mul _ _) ?_ ?_), rfl⟩
    · exact (rz_mul hp (rz_mod hp _) (rz_inv hp _)).1
    · have := (rz_mul hp (rz_mod hp (gq S V i 1)) (rz_inv hp (gq S V i 2))).2
      omega

theorem oPlace_ok {l : Launch} {cc : ByteArray} {R : Room} {ret : Option FieldType} {post : Option Value → List xE → Prop} {nL : Nat} {X : Nat → List (Option Value) → List Value → List xE → Prop} (hX : xR l RX11 cc R ret post nL X) (hR : rX11_place.frames + 1 ≤ R.frames ∧ 10 + (3 + 11) + rX11_place.locals ≤ R.locals) {p : Int} (hp : pok p) {S : SO} {V : SV} {so ro gv : Nat → Int32} (hS : RO S so ro) (hV : RV 8 S.1 V gv) : xHq cc X (306, oPlace p S V so ro gv) := by
  intro pc lv st G K ix hd hk h
  rcases hd with ⟨e, hd⟩ | ⟨e, hd⟩
  · have e : 306 = 2 * ix := e
    have : ix = 153 := by omega
    subst this
    unfold oPlace at h
    dsimp only at h
    split at h
    next a i k0 r =>
      split at h
      next hr =>
        simp only [Bool.and_eq_true] at hr
        obtain ⟨hk0, hr⟩ := hr
        have hk0 := Nat.eq_of_beq_eq_true hk0
        subst hk0
        obtain ⟨n9, nm9, ng9, ns9, ngr9, pp9, ab9, be9, so9, ro9, tb9, gv9, sd9, gr9, row9, table9, one9, two9, rfl, h9⟩ := xGRm_ok h
        clear h
        obtain ⟨⟨rfl, rfl, rfl, rfl, rfl, rfl⟩, i, a, rfl, rfl, ⟨h1, h2⟩, h⟩ := h9
        refine hX.callV0W 10 (by omega) (c_place l nm9 ns9 ngr9 ab9 be9 so9 ro9 tb9 gv9 sd9 gr9 row9 table9 one9 two9 p hp S V hS hV i a h1 h2) yX11_place_ok lkX11_153 ivX11_place slX11_place ⟨rfl, rfl, hR.1, hR.2⟩ hd rfl rfl (xrs_ok hr) rfl rfl rfl (fun _ _ q => by rw [q.2]) (fun r9 G1 q => ?_)
        obtain ⟨rfl, rfl⟩ := q
        exact hk _ _ h
      next => exact h.elim
    next => exact h.elim
  · have e : 306 = 2 * ix + 1 := e
    omega
/-- a cell of the table, by three shares -/
def psm (p : Int) (K : Nat → Int) (E : Nat → Int) : Nat → Int
  | 0 => 0
  | i + 1 => (psm p K E i + K i * (E i % p)) % p
def prjK (p : Int) (S : SO) (V : SV) (i : Nat) : Int := (shr S V 4 i % p) * invp p (shr S V 0 i) % p
def affK (p : Int) (S : SO) (V : SV) (i : Nat) : Int := (gq S V i 2 % p) * invp p (gq S V (3 + i) 2) % p
def prjT (p : Int) (S : SO) (V : SV) (n : Nat) : Int := psm p (prjK p S V) (fun i => gq S V (4 + i) (n / 3) * trn S V 0 i (n % 3)) 3
def affT (p : Int) (S : SO) (V : SV) (n : Nat) : Int := psm p (affK p S V) (fun i => gq S V (3 + i) (n / 3) * trn S V 0 i (n % 3)) 3
theorem psm_rz {p : Int} (hp : pok p) (K E : Nat → Int) : ∀ i, rz p (psm p K E i)
  | 0 => ⟨by show (0 : Int) ≤ 0; omega, by show (0 : Int) < p; have := hp.1; omega⟩
  | i + 1 => rz_mod hp _
set_option maxHeartbeats 4000000 in
set_option maxRecDepth 100000 in
theorem c_projective (l : Launch) (nm ns ngr : Int32) (av be : Int64) (so ro tb gv sd gr : Nat → Int32) (row table one two : Nat → Int64) (p : Int) (hp : pok p) (S : SO) (V : SV) (hS : RO S so ro) (hV : RV 8 S.1 V gv) (hN : V.1 = 8) : xM l yX11_projective cX11_projective 8 (none : Option FieldType) rX11_projective [.ref 0] (GR (nI S.1) nm (nI V.1) ns ngr (zl p) av be so ro tb gv sd gr row table one two) (fun r G => r = none ∧ G = GR (nI S.1) nm (nI V.1) ns ngr (zl p) av be so ro tb gv sd gr row (fun i => zl (prjT p S V i)) one two) := by
  refine xM.of (by decide) (Nat.le_of_ble_eq_true rfl) (fun X hX => ?_)
  have hoc := xoc1 (oAtS_ok hX (by decide) hS) (xoc1 (oMod_ok hX (by decide) hp) (xoc1 (oInv_ok hX (by decide) hp) (xoc1 (oTurn_ok hX (by decide) hS hV) (xoc1 (oShare_ok hX (by decide) hS hV) xnoc))))
  have fin : X 122 [some (.ref 0), none, none, none, none, none, none, none] [] (GR (nI S.1) nm (nI V.1) ns ngr (zl p) av be so ro tb gv sd gr row (fun j => if j < 9 then zl (prjT p S V j) else table j) one two) := by
    refine hX.alike (G2 := GR (nI S.1) nm (nI V.1) ns ngr (zl p) av be so ro tb gv sd gr row (fun i => zl (prjT p S V i)) one two) ?_ ⟨xsame_rf _, xsame_rf _, xsame_rf _, xsame_rf _, xsame_rf _, xsame_rf _, xsame_rf _, xsame_rf _, ⟨rfl, fun i hi => ?_⟩, xsame_rf _, xsame_rf _, trivial⟩
    · refine hX.run (oc := [(156, oAtS S ro), (280, oMod p), (300, oInv p), (288, oTurn S V so ro gv), (294, oShare S V so ro gv)]) kX11_projective_ok ftX11_ok ctX11_ok hoc [] [] [] 90 ?_
      exact ⟨rfl, rfl⟩
    · dsimp only
      rw [if_pos hi]
  have sums : ∀ (r c : Nat), r < 3 → c < 3 → X 99 [some (.ref 0), some (.int (nI r)), some (.int (nI c)), some (.long (zl (prjT p S V (3 * r + c)))), none, none, none, none] [] (GR (nI S.1) nm (nI V.1) ns ngr (zl p) av be so ro tb gv sd gr row (fun j => if j < 3 * r + c then zl (prjT p S V j) else table j) one two) → ∀ (d3 i : Nat) (w : Int64), d3 + i = 3 → w = zl (psm p (prjK p S V) (fun i => gq S V (4 + i) r * trn S V 0 i c) i) → X 19 [some (.ref 0), some (.int (nI r)), some (.int (nI c)), some (.long w), none, some (.int (nI i)), none, none] [] (GR (nI S.1) nm (nI V.1) ns ngr (zl p) av be so ro tb gv sd gr row (fun j => if j < 3 * r + c then zl (prjT p S V j) else table j) one two) := by
    intro r c hr hc hend d3
    have eT : prjT p S V (3 * r + c) = psm p (prjK p S V) (fun i => gq S V (4 + i) r * trn S V 0 i c) 3 := by
      unfold prjT
      rw [show (3 * r + c) / 3 = r by omega, show (3 * r + c) % 3 = c by omega]
    induction d3 with
    | zero =>
      rintro i _ hi rfl
      have hi : i = 3 := by omega
      subst hi
      rw [eT] at hend
      refine hX.run (oc := [(156, oAtS S ro), (280, oMod p), (300, oInv p), (288, oTurn S V so ro gv), (294, oShare S V so ro gv)]) kX11_projective_ok ftX11_ok ctX11_ok hoc [99] [] [] 90 ?_
      exact ⟨fun _ => hX.less hend ⟨rfl, rfl, rfl, rfl, trivial⟩, fun h => absurd (nI_le (Nat.le_refl 3) (by omega)) h⟩
    | succ d3 ih3 =>
      rintro i _ hi rfl
      have hs := psm_rz hp (prjK p S V) (fun i => gq S V (4 + i) r * trn S V 0 i c) i
      have hk : rz p (prjK p S V i) := rz_mod hp _
      have he := rz_mod hp (gq S V (4 + i) r * trn S V 0 i c)
      have hke := rz_mul hp hk he
      have hp2 := hp.2
      have jE : jr (gq S V (4 + i) r * trn S V 0 i c) := ab_jr (ab_mul (gq_bd hS hV (by omega) hr) (trn_bd hS hV (by omega))) (by decide)
      have late : ∀ w : Int64, w = zl (prjK p S V i) → X 55 [some (.ref 0), some (.int (nI r)), some (.int (nI c)), some (.long (zl (psm p (prjK p S V) (fun i => gq S V (4 + i) r * trn S V 0 i c) i))), none, some (.int (nI i)), some (.long w), none] [] (GR (nI S.1) nm (nI V.1) ns ngr (zl p) av be so ro tb gv sd gr row (fun j => if j < 3 * r + c then zl (prjT p S V j) else table j) one two) := by
        rintro _ rfl
        rcases (show r = 0 ∨ r = 1 ∨ r = 2 by omega) with rfl | rfl | rfl
        · refine hX.run (oc := [(156, oAtS S ro), (280, oMod p), (300, oInv p), (288, oTurn S V so ro gv), (294, oShare S V so ro gv)]) kX11_projective_ok ftX11_ok ctX11_ok hoc [19] [] [68] 90 ?_
          refine ⟨4 + i, nI_add 4 i, by omega, by omega, ?_⟩
          refine ⟨rfl, V.2 (4 + i), (hV.2 (4 + i) (by omega)).1, ⟨(hV.2 (4 + i) (by omega)).2, wid3 _ _ (by decide)⟩, ?_⟩
          refine ⟨⟨rfl, rfl, rfl, rfl, rfl⟩, 0, i, c, rfl, rfl, rfl, ⟨by omega, by omega, hc⟩, ?_⟩
          refine ⟨rfl, gq S V (4 + i) 0 * trn S V 0 i c, zl_mul _ _, jE, ?_⟩
          refine ⟨pok_ne hp, ?_⟩
          have := ih3 (i + 1) _ (by omega) (zl_rm (x := zl (psm p (prjK p S V) (fun i => gq S V (4 + i) 0 * trn S V 0 i c) i) + zl (prjK p S V i) * zl ((gq S V (4 + i) 0 * trn S V 0 i c) % p)) (a := psm p (prjK p S V) (fun i => gq S V (4 + i) 0 * trn S V 0 i c) i + prjK p S V i * ((gq S V (4 + i) 0 * trn S V 0 i c) % p)) hp (by rw [zl_mul, zl_add]) (by have := hs.1; have := hke.1; omega) (by have := hs.2; have := hke.2; omega))
          rw [← nI_1 i] at this
          exact hX.less this ⟨rfl, rfl, rfl, rfl, rfl, trivial⟩
        · refine hX.run (oc := [(156, oAtS S ro), (280, oMod p), (300, oInv p), (288, oTurn S V so ro gv), (294, oShare S V so ro gv)]) kX11_projective_ok ftX11_ok ctX11_ok hoc [19] [] [68] 90 ?_
          refine ⟨4 + i, nI_add 4 i, by omega, by omega, ?_⟩
          refine ⟨rfl, V.2 (4 + i), (hV.2 (4 + i) (by omega)).1, ⟨(hV.2 (4 + i) (by omega)).2, wid3 _ _ (by decide)⟩, ?_⟩
          refine ⟨⟨rfl, rfl, rfl, rfl, rfl⟩, 0, i, c, rfl, rfl, rfl, ⟨by omega, by omega, hc⟩, ?_⟩
          refine ⟨rfl, gq S V (4 + i) 1 * trn S V 0 i c, zl_mul _ _, jE, ?_⟩
          refine ⟨pok_ne hp, ?_⟩
          have := ih3 (i + 1) _ (by omega) (zl_rm (x := zl (psm p (prjK p S V) (fun i => gq S V (4 + i) 1 * trn S V 0 i c) i) + zl (prjK p S V i) * zl ((gq S V (4 + i) 1 * trn S V 0 i c) % p)) (a := psm p (prjK p S V) (fun i => gq S V (4 + i) 1 * trn S V 0 i c) i + prjK p S V i * ((gq S V (4 + i) 1 * trn S V 0 i c) % p)) hp (by rw [zl_mul, zl_add]) (by have := hs.1; have := hke.1; omega) (by have := hs.2; have := hke.2; omega))
          rw [← nI_1 i] at this
          exact hX.less this ⟨rfl, rfl, rfl, rfl, rfl, trivial⟩
        · refine hX.run (oc := [(156, oAtS S ro), (280, oMod p), (300, oInv p), (288, oTurn S V so ro gv), (294, oShare S V so ro gv)]) kX11_projective_ok ftX11_ok ctX11_ok hoc [19] [] [68] 90 ?_
          refine ⟨4 + i, nI_add 4 i, by omega, by omega, ?_⟩
          refine ⟨rfl, V.2 (4 + i), (hV.2 (4 + i) (by omega)).1, ⟨(hV.2 (4 + i) (by omega)).2, wid3 _ _ (by decide)⟩, ?_⟩
          refine ⟨⟨rfl, rfl, rfl, rfl, rfl⟩, 0, i, c, rfl, rfl, rfl, ⟨by omega, by omega, hc⟩, ?_⟩
          refine ⟨rfl, gq S V (4 + i) 2 * trn S V 0 i c, zl_mul _ _, jE, ?_⟩
          refine ⟨pok_ne hp, ?_⟩
          have := ih3 (i + 1) _ (by omega) (zl_rm (x := zl (psm p (prjK p S V) (fun i => gq S V (4 + i) 2 * trn S V 0 i c) i) + zl (prjK p S V i) * zl ((gq S V (4 + i) 2 * trn S V 0 i c) % p)) (a := psm p (prjK p S V) (fun i => gq S V (4 + i) 2 * trn S V 0 i c) i + prjK p S V i * ((gq S V (4 + i) 2 * trn S V 0 i c) % p)) hp (by rw [zl_mul, zl_add]) (by have := hs.1; have := hke.1; omega) (by have := hs.2; have := hke.2; omega))
          rw [← nI_1 i] at this
          exact hX.less this ⟨rfl, rfl, rfl, rfl, rfl, trivial⟩
      refine hX.run (oc := [(156, oAtS S ro), (280, oMod p), (300, oInv p), (288, oTurn S V so ro gv), (294, oShare S V so ro gv)]) kX11_projective_ok ftX11_ok ctX11_ok hoc [55] [] [] 90 ?_
      refine ⟨fun h => absurd h (nI_ge (a := i) (b := 3) (by omega) (by omega)), fun _ => ?_⟩
      refine ⟨⟨rfl, rfl, rfl, rfl, rfl⟩, 4, i, rfl, rfl, ⟨by omega, by omega⟩, ?_⟩
      refine ⟨rfl, shr S V 4 i, rfl, ab_jr (shr_bd hS hV (by omega)) (by decide), ?_⟩
      refine ⟨⟨rfl, rfl, rfl, rfl, rfl⟩, 0, i, rfl, rfl, ⟨by omega, by omega⟩, ?_⟩
      refine ⟨rfl, shr S V 0 i, rfl, ab_jr (shr_bd hS hV (by omega)) (by decide), ?_⟩
      refine ⟨pok_ne hp, ?_⟩
      exact late _ (zl_rm hp (zl_mul _ _) (rz_mul hp (rz_mod hp (shr S V 4 i)) (rz_inv hp (shr S V 0 i))).1 (by have := (rz_mul hp (rz_mod hp (shr S V 4 i)) (rz_inv hp (shr S V 0 i))).2; omega))
  have rows : ∀ (d r : Nat), d + r = 3 → X 2 [some (.ref 0), some (.int (nI r)), none, none, none, none, none, none] [] (GR (nI S.1) nm (nI V.1) ns ngr (zl p) av be so ro tb gv sd gr row (fun j => if j < 3 * r then zl (prjT p S V j) else table j) one two) := by
    intro d
    induction d with
    | zero =>
      intro r hr
      have hr : r = 3 := by omega
      subst hr
      refine hX.run (oc := [(156, oAtS S ro), (280, oMod p), (300, oInv p), (288, oTurn S V so ro gv), (294, oShare S V so ro gv)]) kX11_projective_ok ftX11_ok ctX11_ok hoc [122] [] [] 90 ?_
      exact ⟨fun _ => hX.less fin ⟨rfl, trivial⟩, fun h => absurd (nI_le (Nat.le_refl 3) (by omega)) h⟩
    | succ d ih =>
      intro r hr
      have cols : ∀ (d2 c : Nat), d2 + c = 3 → X 9 [some (.ref 0), some (.int (nI r)), some (.int (nI c)), none, none, none, none, none] [] (GR (nI S.1) nm (nI V.1) ns ngr (zl p) av be so ro tb gv sd gr row (fun j => if j < 3 * r + c then zl (prjT p S V j) else table j) one two) := by
        intro d2
        induction d2 with
        | zero =>
          intro c hc
          have hc : c = 3 := by omega
          subst hc
          have := ih (r + 1) (by omega)
          rw [← nI_1, show 3 * (r + 1) = 3 * r + 3 by omega] at this
          refine hX.run (oc := [(156, oAtS S ro), (280, oMod p), (300, oInv p), (288, oTurn S V so ro gv), (294, oShare S V so ro gv)]) kX11_projective_ok ftX11_ok ctX11_ok hoc [2] [] [] 90 ?_
          exact ⟨fun _ => hX.less this ⟨rfl, rfl, trivial⟩, fun h => absurd (nI_le (Nat.le_refl 3) (by omega)) h⟩
        | succ d2 ih2 =>
          intro c hc
          have := ih2 (c + 1) (by omega)
          rw [← nI_1] at this
          have hend : X 99 [some (.ref 0), some (.int (nI r)), some (.int (nI c)), some (.long (zl (prjT p S V (3 * r + c)))), none, none, none, none] [] (GR (nI S.1) nm (nI V.1) ns ngr (zl p) av be so ro tb gv sd gr row (fun j => if j < 3 * r + c then zl (prjT p S V j) else table j) one two) := by
            refine hX.run (oc := [(156, oAtS S ro), (280, oMod p), (300, oInv p), (288, oTurn S V so ro gv), (294, oShare S V so ro gv)]) kX11_projective_ok ftX11_ok ctX11_ok hoc [9] [] [109] 90 ?_
            refine ⟨3 * r + c, ?_, by omega, by omega, ?_⟩
            · show nI 3 * nI r + nI c = nI (3 * r + c)
              rw [pk_mul, nI_add]
            refine hX.alike (hX.less this ⟨rfl, rfl, rfl, trivial⟩) ⟨xsame_rf _, xsame_rf _, xsame_rf _, xsame_rf _, xsame_rf _, xsame_rf _, xsame_rf _, xsame_rf _, ⟨rfl, fun i hi => ?_⟩, xsame_rf _, xsame_rf _, trivial⟩
            unfold vp_updL
            dsimp only
            by_cases e : i = 3 * r + c
            · rw [if_pos e, if_pos (by omega), e]
            · rw [if_neg e]
              by_cases e2 : i < 3 * r + c
              · rw [if_pos e2, if_pos (by omega)]
              · rw [if_neg e2, if_neg (by omega)]
          have hs := sums r c (by omega) (by omega) hend 3 0 _ (by omega) rfl
          refine hX.run (oc := [(156, oAtS S ro), (280, oMod p), (300, oInv p), (288, oTurn S V so ro gv), (294, oShare S V so ro gv)]) kX11_projective_ok ftX11_ok ctX11_ok hoc [19] [] [] 90 ?_
          refine ⟨fun h => absurd h (nI_ge (a := c) (b := 3) (by omega) (by omega)), fun _ => ?_⟩
          exact hX.less hs ⟨rfl, rfl, rfl, rfl, rfl, trivial⟩
      have := cols 3 0 (by omega)
      refine hX.run (oc := [(156, oAtS S ro), (280, oMod p), (300, oInv p), (288, oTurn S V so ro gv), (294, oShare S V so ro gv)]) kX11_projective_ok ftX11_ok ctX11_ok hoc [9] [] [] 90 ?_
      refine ⟨fun h => absurd h (nI_ge (a := r) (b := 3) (by omega) (by omega)), fun _ => ?_⟩
      exact hX.less this ⟨rfl, rfl, rfl, trivial⟩
  have := rows 3 0 (by omega)
  refine hX.run (oc := [(156, oAtS S ro), (280, oMod p), (300, oInv p), (288, oTurn S V so ro gv), (294, oShare S V so ro gv)]) kX11_projective_ok ftX11_ok ctX11_ok hoc [2] [] [] 90 ?_
  refine hX.alike this ⟨xsame_rf _, xsame_rf _, xsame_rf _, xsame_rf _, xsame_rf _, xsame_rf _, xsame_rf _, xsame_rf _, ⟨rfl, fun i hi => ?_⟩, xsame_rf _, xsame_rf _, trivial⟩
  dsimp only
  rw [if_neg (by omega)]
set_option maxHeartbeats 4000000 in
set_option maxRecDepth 100000 in
theorem c_affine (l : Launch) (nm ns ngr : Int32) (av be : Int64) (so ro tb gv sd gr : Nat → Int32) (row table one two : Nat → Int64) (p : Int) (hp : pok p) (S : SO) (V : SV) (hS : RO S so ro) (hV : RV 8 S.1 V gv) (hN : V.1 = 6) : xM l yX11_affine cX11_affine 8 (none : Option FieldType) rX11_affine [.ref 0] (GR (nI S.1) nm (nI V.1) ns ngr (zl p) av be so ro tb gv sd gr row table one two) (fun r G => r = none ∧ G = GR (nI S.1) nm (nI V.1) ns ngr (zl p) av be so ro tb gv sd gr row (fun i => zl (affT p S V i)) one two) := by
  refine xM.of (by decide) (Nat.le_of_ble_eq_true rfl) (fun X hX => ?_)
  have hoc := xoc1 (oAtS_ok hX (by decide) hS) (xoc1 (oMod_ok hX (by decide) hp) (xoc1 (oInv_ok hX (by decide) hp) (xoc1 (oTurn_ok hX (by decide) hS hV) xnoc)))
  have fin : X 134 [some (.ref 0), none, none, none, none, none, none, none] [] (GR (nI S.1) nm (nI V.1) ns ngr (zl p) av be so ro tb gv sd gr row (fun j => if j < 9 then zl (affT p S V j) else table j) one two) := by
    refine hX.alike (G2 := GR (nI S.1) nm (nI V.1) ns ngr (zl p) av be so ro tb gv sd gr row (fun i => zl (affT p S V i)) one two) ?_ ⟨xsame_rf _, xsame_rf _, xsame_rf _, xsame_rf _, xsame_rf _, xsame_rf _, xsame_rf _, xsame_rf _, ⟨rfl, fun i hi => ?_⟩, xsame_rf _, xsame_rf _, trivial⟩
    · refine hX.run (oc := [(156, oAtS S ro), (280, oMod p), (300, oInv p), (288, oTurn S V so ro gv)]) kX11_affine_ok ftX11_ok ctX11_ok hoc [] [] [] 90 ?_
      exact ⟨rfl, rfl⟩
    · dsimp only
      rw [if_pos hi]
  have sums : ∀ (r c : Nat), r < 3 → c < 3 → X 111 [some (.ref 0), some (.int (nI r)), some (.int (nI c)), some (.long (zl (affT p S V (3 * r + c)))), none, none, none, none] [] (GR (nI S.1) nm (nI V.1) ns ngr (zl p) av be so ro tb gv sd gr row (fun j => if j < 3 * r + c then zl (affT p S V j) else table j) one two) → ∀ (d3 i : Nat) (w : Int64), d3 + i = 3 → w = zl (psm p (affK p S V) (fun i => gq S V (3 + i) r * trn S V 0 i c) i) → X 19 [some (.ref 0), some (.int (nI r)), some (.int (nI c)), some (.long w), none, some (.int (nI i)), none, none] [] (GR (nI S.1) nm (nI V.1) ns ngr (zl p) av be so ro tb gv sd gr row (fun j => if j < 3 * r + c then zl (affT p S V j) else table j) one two) := by
    intro r c hr hc hend d3
    have eT : affT p S V (3 * r + c) = psm p (affK p S V) (fun i => gq S V (3 + i) r * trn S V 0 i c) 3 := by
      unfold affT
      rw [show (3 * r + c) / 3 = r by omega, show (3 * r + c) % 3 = c by omega]
    induction d3 with
    | zero =>
      rintro i _ hi rfl
      have hi : i = 3 := by omega
      subst hi
      rw [eT] at hend
      refine hX.run (oc := [(156, oAtS S ro), (280, oMod p), (300, oInv p), (288, oTurn S V so ro gv)]) kX11_affine_ok ftX11_ok ctX11_ok hoc [111] [] [] 90 ?_
      exact ⟨fun _ => hX.less hend ⟨rfl, rfl, rfl, rfl, trivial⟩, fun h => absurd (nI_le (Nat.le_refl 3) (by omega)) h⟩
    | succ d3 ih3 =>
      rintro i _ hi rfl
      have hs := psm_rz hp (affK p S V) (fun i => gq S V (3 + i) r * trn S V 0 i c) i
      have hk : rz p (affK p S V i) := rz_mod hp _
      have he := rz_mod hp (gq S V (3 + i) r * trn S V 0 i c)
      have hke := rz_mul hp hk he
      have hp2 := hp.2
      have jE : jr (gq S V (3 + i) r * trn S V 0 i c) := ab_jr (ab_mul (gq_bd hS hV (by omega) hr) (trn_bd hS hV (by omega))) (by decide)
      have late : ∀ w : Int64, w = zl (affK p S V i) → X 67 [some (.ref 0), some (.int (nI r)), some (.int (nI c)), some (.long (zl (psm p (affK p S V) (fun i => gq S V (3 + i) r * trn S V 0 i c) i))), none, some (.int (nI i)), some (.long w), none] [] (GR (nI S.1) nm (nI V.1) ns ngr (zl p) av be so ro tb gv sd gr row (fun j => if j < 3 * r + c then zl (affT p S V j) else table j) one two) := by
        rintro _ rfl
        rcases (show r = 0 ∨ r = 1 ∨ r = 2 by omega) with rfl | rfl | rfl
        · refine hX.run (oc := [(156, oAtS S ro), (280, oMod p), (300, oInv p), (288, oTurn S V so ro gv)]) kX11_affine_ok ftX11_ok ctX11_ok hoc [19] [] [80] 90 ?_
          refine ⟨3 + i, nI_add 3 i, by omega, by omega, ?_⟩
          refine ⟨rfl, V.2 (3 + i), (hV.2 (3 + i) (by omega)).1, ⟨(hV.2 (3 + i) (by omega)).2, wid3 _ _ (by decide)⟩, ?_⟩
          refine ⟨⟨rfl, rfl, rfl, rfl, rfl⟩, 0, i, c, rfl, rfl, rfl, ⟨by omega, by omega, hc⟩, ?_⟩
          refine ⟨rfl, gq S V (3 + i) 0 * trn S V 0 i c, zl_mul _ _, jE, ?_⟩
          refine ⟨pok_ne hp, ?_⟩
          have := ih3 (i + 1) _ (by omega) (zl_rm (x := zl (psm p (affK p S V) (fun i => gq S V (3 + i) 0 * trn S V 0 i c) i) + zl (affK p S V i) * zl ((gq S V (3 + i) 0 * trn S V 0 i c) % p)) (a := psm p (affK p S V) (fun i => gq S V (3 + i) 0 * trn S V 0 i c) i + affK p S V i * ((gq S V (3 + i) 0 * trn S V 0 i c) % p)) hp (by rw [zl_mul, zl_add]) (by have := hs.1; have := hke.1; omega) (by have := hs.2; have := hke.2; omega))
          rw [← nI_1 i] at this
          exact hX.less this ⟨rfl, rfl, rfl, rfl, rfl, trivial⟩
        · refine hX.run (oc := [(156, oAtS S ro), (280, oMod p), (300, oInv p), (288, oTurn S V so ro gv)]) kX11_affine_ok ftX11_ok ctX11_ok hoc [19] [] [80] 90 ?_
          refine ⟨3 + i, nI_add 3 i, by omega, by omega, ?_⟩
          refine ⟨rfl, V.2 (3 + i), (hV.2 (3 + i) (by omega)).1, ⟨(hV.2 (3 + i) (by omega)).2, wid3 _ _ (by decide)⟩, ?_⟩
          refine ⟨⟨rfl, rfl, rfl, rfl, rfl⟩, 0, i, c, rfl, rfl, rfl, ⟨by omega, by omega, hc⟩, ?_⟩
          refine ⟨rfl, gq S V (3 + i) 1 * trn S V 0 i c, zl_mul _ _, jE, ?_⟩
          refine ⟨pok_ne hp, ?_⟩
          have := ih3 (i + 1) _ (by omega) (zl_rm (x := zl (psm p (affK p S V) (fun i => gq S V (3 + i) 1 * trn S V 0 i c) i) + zl (affK p S V i) * zl ((gq S V (3 + i) 1 * trn S V 0 i c) % p)) (a := psm p (affK p S V) (fun i => gq S V (3 + i) 1 * trn S V 0 i c) i + affK p S V i * ((gq S V (3 + i) 1 * trn S V 0 i c) % p)) hp (by rw [zl_mul, zl_add]) (by have := hs.1; have := hke.1; omega) (by have := hs.2; have := hke.2; omega))
          rw [← nI_1 i] at this
          exact hX.less this ⟨rfl, rfl, rfl, rfl, rfl, trivial⟩
        · refine hX.run (oc := [(156, oAtS S ro), (280, oMod p), (300, oInv p), (288, oTurn S V so ro gv)]) kX11_affine_ok ftX11_ok ctX11_ok hoc [19] [] [80] 90 ?_
          refine ⟨3 + i, nI_add 3 i, by omega, by omega, ?_⟩
          refine ⟨rfl, V.2 (3 + i), (hV.2 (3 + i) (by omega)).1, ⟨(hV.2 (3 + i) (by omega)).2, wid3 _ _ (by decide)⟩, ?_⟩
          refine ⟨⟨rfl, rfl, rfl, rfl, rfl⟩, 0, i, c, rfl, rfl, rfl, ⟨by omega, by omega, hc⟩, ?_⟩
          refine ⟨rfl, gq S V (3 + i) 2 * trn S V 0 i c, zl_mul _ _, jE, ?_⟩
          refine ⟨pok_ne hp, ?_⟩
          have := ih3 (i + 1) _ (by omega) (zl_rm (x := zl (psm p (affK p S V) (fun i => gq S V (3 + i) 2 * trn S V 0 i c) i) + zl (affK p S V i) * zl ((gq S V (3 + i) 2 * trn S V 0 i c) % p)) (a := psm p (affK p S V) (fun i => gq S V (3 + i) 2 * trn S V 0 i c) i + affK p S V i * ((gq S V (3 + i) 2 * trn S V 0 i c) % p)) hp (by rw [zl_mul, zl_add]) (by have := hs.1; have := hke.1; omega) (by have := hs.2; have := hke.2; omega))
          rw [← nI_1 i] at this
          exact hX.less this ⟨rfl, rfl, rfl, rfl, rfl, trivial⟩
      refine hX.run (oc := [(156, oAtS S ro), (280, oMod p), (300, oInv p), (288, oTurn S V so ro gv)]) kX11_affine_ok ftX11_ok ctX11_ok hoc [67] [] [33, 51] 90 ?_
      refine ⟨fun h => absurd h (nI_ge (a := i) (b := 3) (by omega) (by omega)), fun _ => ?_⟩
      refine ⟨i, rfl, by omega, by omega, ?_⟩
      refine ⟨rfl, V.2 i, (hV.2 i (by omega)).1, ⟨(hV.2 i (by omega)).2, wid3 _ _ (by decide)⟩, ?_⟩
      refine ⟨rfl, gq S V i 2, rfl, ab_jr (gq_bd hS hV (by omega) (by omega)) (by decide), ?_⟩
      refine ⟨3 + i, nI_add 3 i, by omega, by omega, ?_⟩
      refine ⟨rfl, V.2 (3 + i), (hV.2 (3 + i) (by omega)).1, ⟨(hV.2 (3 + i) (by omega)).2, wid3 _ _ (by decide)⟩, ?_⟩
      refine ⟨rfl, gq S V (3 + i) 2, rfl, ab_jr (gq_bd hS hV (by omega) (by omega)) (by decide), ?_⟩
      refine ⟨pok_ne hp, ?_⟩
      exact late _ (zl_rm hp (zl_mul _ _) (rz_mul hp (rz_mod hp (gq S V i 2)) (rz_inv hp (gq S V (3 + i) 2))).1 (by have := (rz_mul hp (rz_mod hp (gq S V i 2)) (rz_inv hp (gq S V (3 + i) 2))).2; omega))
  have rows : ∀ (d r : Nat), d + r = 3 → X 2 [some (.ref 0), some (.int (nI r)), none, none, none, none, none, none] [] (GR (nI S.1) nm (nI V.1) ns ngr (zl p) av be so ro tb gv sd gr row (fun j => if j < 3 * r then zl (affT p S V j) else table j) one two) := by
    intro d
    induction d with
    | zero =>
      intro r hr
      have hr : r = 3 := by omega
      subst hr
      refine hX.run (oc := [(156, oAtS S ro), (280, oMod p), (300, oInv p), (288, oTurn S V so ro gv)]) kX11_affine_ok ftX11_ok ctX11_ok hoc [134] [] [] 90 ?_
      exact ⟨fun _ => hX.less fin ⟨rfl, trivial⟩, fun h => absurd (nI_le (Nat.le_refl 3) (by omega)) h⟩
    | succ d ih =>
      intro r hr
      have cols : ∀ (d2 c : Nat), d2 + c = 3 → X 9 [some (.ref 0), some (.int (nI r)), some (.int (nI c)), none, none, none, none, none] [] (GR (nI S.1) nm (nI V.1) ns ngr (zl p) av be so ro tb gv sd gr row (fun j => if j < 3 * r + c then zl (affT p S V j) else table j) one two) := by
        intro d2
        induction d2 with
        | zero =>
          intro c hc
          have hc : c = 3 := by omega
          subst hc
          have := ih (r + 1) (by omega)
          rw [← nI_1, show 3 * (r + 1) = 3 * r + 3 by omega] at this
          refine hX.run (oc := [(156, oAtS S ro), (280, oMod p), (300, oInv p), (288, oTurn S V so ro gv)]) kX11_affine_ok ftX11_ok ctX11_ok hoc [2] [] [] 90 ?_
          exact ⟨fun _ => hX.less this ⟨rfl, rfl, trivial⟩, fun h => absurd (nI_le (Nat.le_refl 3) (by omega)) h⟩
        | succ d2 ih2 =>
          intro c hc
          have := ih2 (c + 1) (by omega)
          rw [← nI_1] at this
          have hend : X 111 [some (.ref 0), some (.int (nI r)), some (.int (nI c)), some (.long (zl (affT p S V (3 * r + c)))), none, none, none, none] [] (GR (nI S.1) nm (nI V.1) ns ngr (zl p) av be so ro tb gv sd gr row (fun j => if j < 3 * r + c then zl (affT p S V j) else table j) one two) := by
            refine hX.run (oc := [(156, oAtS S ro), (280, oMod p), (300, oInv p), (288, oTurn S V so ro gv)]) kX11_affine_ok ftX11_ok ctX11_ok hoc [9] [] [121] 90 ?_
            refine ⟨3 * r + c, ?_, by omega, by omega, ?_⟩
            · show nI 3 * nI r + nI c = nI (3 * r + c)
              rw [pk_mul, nI_add]
            refine hX.alike (hX.less this ⟨rfl, rfl, rfl, trivial⟩) ⟨xsame_rf _, xsame_rf _, xsame_rf _, xsame_rf _, xsame_rf _, xsame_rf _, xsame_rf _, xsame_rf _, ⟨rfl, fun i hi => ?_⟩, xsame_rf _, xsame_rf _, trivial⟩
            unfold vp_updL
            dsimp only
            by_cases e : i = 3 * r + c
            · rw [if_pos e, if_pos (by omega), e]
            · rw [if_neg e]
              by_cases e2 : i < 3 * r + c
              · rw [if_pos e2, if_pos (by omega)]
              · rw [if_neg e2, if_neg (by omega)]
          have hs := sums r c (by omega) (by omega) hend 3 0 _ (by omega) rfl
          refine hX.run (oc := [(156, oAtS S ro), (280, oMod p), (300, oInv p), (288, oTurn S V so ro gv)]) kX11_affine_ok ftX11_ok ctX11_ok hoc [19] [] [] 90 ?_
          refine ⟨fun h => absurd h (nI_ge (a := c) (b := 3) (by omega) (by omega)), fun _ => ?_⟩
          exact hX.less hs ⟨rfl, rfl, rfl, rfl, rfl, trivial⟩
      have := cols 3 0 (by omega)
      refine hX.run (oc := [(156, oAtS S ro), (280, oMod p), (300, oInv p), (288, oTurn S V so ro gv)]) kX11_affine_ok ftX11_ok ctX11_ok hoc [9] [] [] 90 ?_
      refine ⟨fun h => absurd h (nI_ge (a := r) (b := 3) (by omega) (by omega)), fun _ => ?_⟩
      exact hX.less this ⟨rfl, rfl, rfl, trivial⟩
  have := rows 3 0 (by omega)
  refine hX.run (oc := [(156, oAtS S ro), (280, oMod p), (300, oInv p), (288, oTurn S V so ro gv)]) kX11_affine_ok ftX11_ok ctX11_ok hoc [2] [] [] 90 ?_
  refine hX.alike this ⟨xsame_rf _, xsame_rf _, xsame_rf _, xsame_rf _, xsame_rf _, xsame_rf _, xsame_rf _, xsame_rf _, ⟨rfl, fun i hi => ?_⟩, xsame_rf _, xsame_rf _, trivial⟩
  dsimp only
  rw [if_neg (by omega)]
def lkdx (p : Int) (S : SO) (V : SV) (a : Nat) : Int := (plc p S V 1 a - plc p S V 0 a) % p
def lkex (p : Int) (S : SO) (V : SV) (a : Nat) : Int := (plc p S V 3 a - plc p S V 2 a) % p
def lkn (p : Int) (S : SO) (V : SV) : Int := (lkdx p S V 0 * lkdx p S V 0 + lkdx p S V 1 * lkdx p S V 1 % p) % p
def lka (p : Int) (S : SO) (V : SV) : Int := (lkex p S V 0 * lkdx p S V 0 % p + lkex p S V 1 * lkdx p S V 1) % p
def lkb (p : Int) (S : SO) (V : SV) : Int := (lkex p S V 1 * lkdx p S V 0 % p - lkex p S V 0 * lkdx p S V 1 % p) % p
def lk2 (p : Int) (S : SO) (V : SV) : Int := (plc p S V 2 0 * lkn p S V % p - (lka p S V * plc p S V 0 0 % p - lkb p S V * plc p S V 0 1 % p) % p) % p
def lk5 (p : Int) (S : SO) (V : SV) : Int := (plc p S V 2 1 * lkn p S V % p - (lkb p S V * plc p S V 0 0 % p + lka p S V * plc p S V 0 1 % p) % p) % p
def likT (p : Int) (S : SO) (V : SV) : Nat → Int := t9 (lka p S V) ((- lkb p S V) % p) (lk2 p S V) (lkb p S V) (lka p S V) (lk5 p S V) 0 0 (lkn p S V)
def rX11_lik2 : Room := { frames := 3, cells := 0, slots := 0, locals := 76 }
set_option maxHeartbeats 4000000 in
set_option maxRecDepth 100000 in
theorem c_likeness (l : Launch) (nm ns ngr : Int32) (av be : Int64) (so ro tb gv sd gr : Nat → Int32) (row table one two : Nat → Int64) (p : Int) (hp : pok p) (S : SO) (V : SV) (hS : RO S so ro) (hV : RV 8 S.1 V gv) (hN : V.1 = 4) : xM l yX11_likeness cX11_likeness 15 (none : Option FieldType) rX11_lik2 [.ref 0] (GR (nI S.1) nm (nI V.1) ns ngr (zl p) av be so ro tb gv sd gr row table one two) (fun r G => r = none ∧ G = GR (nI S.1) nm (nI V.1) ns ngr (zl p) av be so ro tb gv sd gr row (fun i => zl (likT p S V i)) one two) := by
  refine xM.of (by decide) (Nat.le_of_ble_eq_true rfl) (fun X hX => ?_)
  have hoc := xoc1 (oMod_ok hX (by decide) hp) (xoc1 (oPlace_ok hX (by decide) hp hS hV) xnoc)
  have hp1 := hp.1
  have hp2 := hp.2
  have q : ∀ i a, rz p (plc p S V i a) := fun i a => rz_mod hp _
  have jsub : ∀ x y : Int, rz p x → rz p y → jr (x - y) := fun x y hx hy => ⟨by have := hx.1; have := hy.2; omega, by have := hx.2; have := hy.1; omega⟩
  have qd : ∀ a, rz p (lkdx p S V a) := fun a => rz_mod hp _
  have qe : ∀ a, rz p (lkex p S V a) := fun a => rz_mod hp _
  have qn : rz p (lkn p S V) := rz_mod hp _
  have qa : rz p (lka p S V) := rz_mod hp _
  have qb : rz p (lkb p S V) := rz_mod hp _
  have zm : ∀ x y : Int, rz p x → rz p y → zl x * zl y - zl x * zl y / zl p * zl p = zl (x * y % p) := fun x y hx hy => zl_rm hp (zl_mul _ _) (rz_mul hp hx hy).1 (by have := (rz_mul hp hx hy).2; omega)
  have s6 : ∀ (w1 w2 : Int64) (T : Nat → Int64), w1 = zl (lk5 p S V) → w2 = zl (lk2 p S V) → (∀ i, i < 9 → T i = set9 table (zl (lka p S V)) (zl ((- lkb p S V) % p)) w2 (zl (lkb p S V)) (zl (lka p S V)) w1 i ∨ i = 8 ∧ T i = zl (lkn p S V)) → T 8 = zl (lkn p S V) → X 284 [some (.ref 0), none, none, none, none, none, none, none, none, none, none, none, none, none, none] [] (GR (nI S.1) nm (nI V.1) ns ngr (zl p) av be so ro tb gv sd gr row T one two) := by
    rintro _ _ T rfl rfl hT h8
    refine hX.alike (G2 := GR (nI S.1) nm (nI V.1) ns ngr (zl p) av be so ro tb gv sd gr row (fun i => zl (likT p S V i)) one two) ?_ ⟨xsame_rf _, xsame_rf _, xsame_rf _, xsame_rf _, xsame_rf _, xsame_rf _, xsame_rf _, xsame_rf _, ⟨rfl, fun i hi => ?_⟩, xsame_rf _, xsame_rf _, trivial⟩
    · refine hX.run (oc := [(280, oMod p), (306, oPlace p S V so ro gv)]) kX11_likeness_ok ftX11_ok ctX11_ok hoc [] [] [] 120 ?_
      exact ⟨rfl, rfl⟩
    · by_cases e8 : i = 8
      · rw [e8, h8]; rfl
      · rcases hT i hi with h | h
        · rw [h]
          unfold set9
          rcases (show i = 0 ∨ i = 1 ∨ i = 2 ∨ i = 3 ∨ i = 4 ∨ i = 5 ∨ i = 6 ∨ i = 7 ∨ i = 8 by omega) with rfl | rfl | rfl | rfl | rfl | rfl | rfl | rfl | rfl <;> first | rfl | exact absurd rfl e8
        · exact absurd h.1 e8
  have s5 : ∀ w : Int64, w = zl (lkb p S V) → X 139 [some (.ref 0), some (.long (zl (lkdx p S V 0))), none, some (.long (zl (lkdx p S V 1))), none, some (.long (zl (lkex p S V 0))), none, some (.long (zl (lkex p S V 1))), none, some (.long (zl (lkn p S V))), none, some (.long (zl (lka p S V))), none, some (.long w), none] [] (GR (nI S.1) nm (nI V.1) ns ngr (zl p) av be so ro tb gv sd gr row table one two) := by
    rintro _ rfl
    refine hX.run (oc := [(280, oMod p), (306, oPlace p S V so ro gv)]) kX11_likeness_ok ftX11_ok ctX11_ok hoc [] [] [] 40 ?_
    refine ⟨rfl, - lkb p S V, zl_neg _, ⟨by have := qb.2; omega, by have := qb.1; omega⟩, ?_⟩
    refine hX.callV0 (rest := []) (c_set l _ _ _ _ _ _ _ _ _ _ _ _ _ _ _ _ _ _ _ _ _ _ _ _) yX11_set_ok lkX11_120 ivX11_set slX11_set ⟨rfl, rfl, by decide, by decide⟩ (kX11_likeness_ok.at 155 rfl) rfl rfl (by decide) rfl rfl rfl (fun _ _ q => by rw [q.2]; rfl) (fun r9 G1 q => ?_)
    obtain ⟨rfl, rfl⟩ := q
    refine hX.run (oc := [(280, oMod p), (306, oPlace p S V so ro gv)]) kX11_likeness_ok ftX11_ok ctX11_ok hoc [284] [] [] 150 ?_
    refine ⟨⟨rfl, rfl, rfl, rfl, rfl, rfl⟩, 2, 0, rfl, rfl, ⟨by omega, by omega⟩, ?_⟩
    refine ⟨pok_ne hp, ?_⟩
    refine ⟨⟨rfl, rfl, rfl, rfl, rfl, rfl⟩, 0, 0, rfl, rfl, ⟨by omega, by omega⟩, ?_⟩
    refine ⟨pok_ne hp, ?_⟩
    refine ⟨⟨rfl, rfl, rfl, rfl, rfl, rfl⟩, 0, 1, rfl, rfl, ⟨by omega, by omega⟩, ?_⟩
    refine ⟨pok_ne hp, ?_⟩
    have r1 := rz_mod hp (lka p S V * plc p S V 0 0)
    have r2 := rz_mod hp (lkb p S V * plc p S V 0 1)
    have r3 := rz_mod hp (plc p S V 2 0 * lkn p S V)
    have r4 := rz_mod hp (lka p S V * plc p S V 0 0 % p - lkb p S V * plc p S V 0 1 % p)
    have r5 := rz_mod hp (lkb p S V * plc p S V 0 0)
    have r6 := rz_mod hp (lka p S V * plc p S V 0 1)
    have r7 := rz_mod hp (plc p S V 2 1 * lkn p S V)
    have r8 := rz_mod hp (lkb p S V * plc p S V 0 0 % p + lka p S V * plc p S V 0 1 % p)
    refine ⟨rfl, lka p S V * plc p S V 0 0 % p - lkb p S V * plc p S V 0 1 % p, ?_, jsub _ _ r1 r2, ?_⟩
    · rw [← zl_sub, ← zm _ _ qa (q 0 0), ← zm _ _ qb (q 0 1)]
    refine ⟨rfl, plc p S V 2 0 * lkn p S V % p - (lka p S V * plc p S V 0 0 % p - lkb p S V * plc p S V 0 1 % p) % p, ?_, jsub _ _ r3 r4, ?_⟩
    · rw [← zl_sub, ← zm _ _ (q 2 0) qn]
    refine ⟨⟨rfl, rfl, rfl, rfl, rfl, rfl⟩, 2, 1, rfl, rfl, ⟨by omega, by omega⟩, ?_⟩
    refine ⟨pok_ne hp, ?_⟩
    refine ⟨⟨rfl, rfl, rfl, rfl, rfl, rfl⟩, 0, 0, rfl, rfl, ⟨by omega, by omega⟩, ?_⟩
    refine ⟨pok_ne hp, ?_⟩
    refine ⟨⟨rfl, rfl, rfl, rfl, rfl, rfl⟩, 0, 1, rfl, rfl, ⟨by omega, by omega⟩, ?_⟩
    refine ⟨pok_ne hp, ?_⟩
    refine ⟨pok_ne hp, ?_⟩
    refine ⟨rfl, plc p S V 2 1 * lkn p S V % p - (lkb p S V * plc p S V 0 0 % p + lka p S V * plc p S V 0 1 % p) % p, ?_, jsub _ _ r7 r8, ?_⟩
    · rw [← zl_sub, ← zm _ _ (q 2 1) qn]
      congr 1
      refine zl_rm hp ?_ (by have := r5.1; have := r6.1; omega) (by have := r5.2; have := r6.2; omega)
      rw [← zl_add, ← zm _ _ qb (q 0 0), ← zm _ _ qa (q 0 1)]
    refine hX.less (s6 (zl (lk5 p S V)) (zl (lk2 p S V)) _ rfl rfl (fun i hi => ?_) ?_) ⟨rfl, trivial⟩
    · unfold vp_updL set9
      rcases (show i = 0 ∨ i = 1 ∨ i = 2 ∨ i = 3 ∨ i = 4 ∨ i = 5 ∨ i = 6 ∨ i = 7 ∨ i = 8 by omega) with rfl | rfl | rfl | rfl | rfl | rfl | rfl | rfl | rfl
      · exact Or.inl rfl
      · exact Or.inl rfl
      · exact Or.inl rfl
      · exact Or.inl rfl
      · exact Or.inl rfl
      · exact Or.inl rfl
      · exact Or.inl rfl
      · exact Or.inl rfl
      · exact Or.inr ⟨rfl, rfl⟩
    · rfl
  have s4 : ∀ w : Int64, w = zl (lka p S V) → X 114 [some (.ref 0), some (.long (zl (lkdx p S V 0))), none, some (.long (zl (lkdx p S V 1))), none, some (.long (zl (lkex p S V 0))), none, some (.long (zl (lkex p S V 1))), none, some (.long (zl (lkn p S V))), none, some (.long w), none, none, none] [] (GR (nI S.1) nm (nI V.1) ns ngr (zl p) av be so ro tb gv sd gr row table one two) := by
    rintro _ rfl
    refine hX.run (oc := [(280, oMod p), (306, oPlace p S V so ro gv)]) kX11_likeness_ok ftX11_ok ctX11_ok hoc [139] [] [] 40 ?_
    refine ⟨pok_ne hp, pok_ne hp, ?_⟩
    refine ⟨rfl, lkex p S V 1 * lkdx p S V 0 % p - lkex p S V 0 * lkdx p S V 1 % p, ?_, jsub _ _ (rz_mod hp _) (rz_mod hp _), ?_⟩
    · rw [← zl_sub, ← zm _ _ (qe 1) (qd 0), ← zm _ _ (qe 0) (qd 1)]
    exact s5 _ rfl
  have s3 : ∀ w : Int64, w = zl (lkn p S V) → X 93 [some (.ref 0), some (.long (zl (lkdx p S V 0))), none, some (.long (zl (lkdx p S V 1))), none, some (.long (zl (lkex p S V 0))), none, some (.long (zl (lkex p S V 1))), none, some (.long w), none, none, none, none, none] [] (GR (nI S.1) nm (nI V.1) ns ngr (zl p) av be so ro tb gv sd gr row table one two) := by
    rintro _ rfl
    refine hX.run (oc := [(280, oMod p), (306, oPlace p S V so ro gv)]) kX11_likeness_ok ftX11_ok ctX11_ok hoc [114] [] [] 40 ?_
    refine ⟨pok_ne hp, pok_ne hp, ?_⟩
    refine s4 _ (zl_rm hp ?_ ?_ ?_)
    · rw [← zl_add, ← zl_mul, ← zm _ _ (qe 0) (qd 0)]
    · have := (rz_mod hp (lkex p S V 0 * lkdx p S V 0)).1
      have := (rz_mul hp (qe 1) (qd 1)).1
      omega
    · have := (rz_mod hp (lkex p S V 0 * lkdx p S V 0)).2
      have := (rz_mul hp (qe 1) (qd 1)).2
      omega
  have s2 : X 74 [some (.ref 0), some (.long (zl (lkdx p S V 0))), none, some (.long (zl (lkdx p S V 1))), none, some (.long (zl (lkex p S V 0))), none, some (.long (zl (lkex p S V 1))), none, none, none, none, none, none, none] [] (GR (nI S.1) nm (nI V.1) ns ngr (zl p) av be so ro tb gv sd gr row table one two) := by
    refine hX.run (oc := [(280, oMod p), (306, oPlace p S V so ro gv)]) kX11_likeness_ok ftX11_ok ctX11_ok hoc [93] [] [] 40 ?_
    refine ⟨pok_ne hp, pok_ne hp, ?_⟩
    refine s3 _ (zl_rm hp ?_ ?_ ?_)
    · rw [← zl_add, ← zl_mul, ← zm _ _ (qd 1) (qd 1)]
    · have := (rz_mod hp (lkdx p S V 1 * lkdx p S V 1)).1
      have := (rz_mul hp (qd 0) (qd 0)).1
      omega
    · have := (rz_mod hp (lkdx p S V 1 * lkdx p S V 1)).2
      have := (rz_mul hp (qd 0) (qd 0)).2
      omega
  refine hX.run (oc := [(280, oMod p), (306, oPlace p S V so ro gv)]) kX11_likeness_ok ftX11_ok ctX11_ok hoc [74] [] [] 80 ?_
  refine ⟨⟨rfl, rfl, rfl, rfl, rfl, rfl⟩, 1, 0, rfl, rfl, ⟨by omega, by omega⟩, ?_⟩
  refine ⟨⟨rfl, rfl, rfl, rfl, rfl, rfl⟩, 0, 0, rfl, rfl, ⟨by omega, by omega⟩, ?_⟩
  refine ⟨rfl, plc p S V 1 0 - plc p S V 0 0, zl_sub _ _, jsub _ _ (q _ _) (q _ _), ?_⟩
  refine ⟨⟨rfl, rfl, rfl, rfl, rfl, rfl⟩, 1, 1, rfl, rfl, ⟨by omega, by omega⟩, ?_⟩
  refine ⟨⟨rfl, rfl, rfl, rfl, rfl, rfl⟩, 0, 1, rfl, rfl, ⟨by omega, by omega⟩, ?_⟩
  refine ⟨rfl, plc p S V 1 1 - plc p S V 0 1, zl_sub _ _, jsub _ _ (q _ _) (q _ _), ?_⟩
  refine ⟨⟨rfl, rfl, rfl, rfl, rfl, rfl⟩, 3, 0, rfl, rfl, ⟨by omega, by omega⟩, ?_⟩
  refine ⟨⟨rfl, rfl, rfl, rfl, rfl, rfl⟩, 2, 0, rfl, rfl, ⟨by omega, by omega⟩, ?_⟩
  refine ⟨rfl, plc p S V 3 0 - plc p S V 2 0, zl_sub _ _, jsub _ _ (q _ _) (q _ _), ?_⟩
  refine ⟨⟨rfl, rfl, rfl, rfl, rfl, rfl⟩, 3, 1, rfl, rfl, ⟨by omega, by omega⟩, ?_⟩
  refine ⟨⟨rfl, rfl, rfl, rfl, rfl, rfl⟩, 2, 1, rfl, rfl, ⟨by omega, by omega⟩, ?_⟩
  refine ⟨rfl, plc p S V 3 1 - plc p S V 2 1, zl_sub _ _, jsub _ _ (q _ _) (q _ _), ?_⟩
  exact s2
