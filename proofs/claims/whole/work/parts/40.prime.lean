theorem pf_lI {a : Nat} (h : a < 2 ^ 63) : (lN a).toInt = (a : Int) := lg_ofNat_toInt h
theorem pf_shr {a d : Nat} {D : Int64} (hD : (D.toBitVec.smod 64).toNat = d) (h : a < 2 ^ 62) : lN a >>> D = lN (a / 2 ^ d) := by
  have hd : a / 2 ^ d ≤ a := Nat.div_le_self _ _
  apply Int64.toInt_inj.mp
  have e : (lN a >>> D).toInt = (lN a).toInt >>> d := by
    rw [← hD]
    exact BitVec.toInt_sshiftRight ..
  rw [e, Int.shiftRight_eq_div_pow, pf_lI (by omega), pf_lI (by omega)]
  rfl
theorem u_tn {n : Nat} (h : n < 2 ^ 64) : (UInt64.ofNat n).toNat = n := Nat.mod_eq_of_lt h
theorem g_and {a b c : Nat} (ha : a < 2 ^ 64) (hb : b < 2 ^ 64) (hc : a &&& b = c) : lN a &&& lN b = lN c := by
  subst hc
  have h : UInt64.ofNat a &&& UInt64.ofNat b = UInt64.ofNat (a &&& b) := UInt64.toNat_inj.mp (by rw [UInt64.toNat_and, u_tn ha, u_tn hb, u_tn (Nat.and_lt_two_pow a hb)])
  have h2 := congrArg UInt64.toInt64 h
  exact h2
theorem g_and1 {a : Nat} (ha : a < 2 ^ 64) : lN a &&& 1 = lN (a % 2) := g_and (b := 1) ha (by decide) (Nat.and_two_pow_sub_one_eq_mod a 1)
/-! reckoning with remainders by a number p -/
def pok (p : Int) : Prop := 2 < p ∧ p < 2147483648
def rz (p z : Int) : Prop := 0 ≤ z ∧ z < p
theorem rz_mod {p : Int} (hp : pok p) (z : Int) : rz p (z % p) := ⟨Int.emod_nonneg z (by have := hp.1; omega), Int.emod_lt_of_pos z (by have := hp.1; omega)⟩
theorem rz_jr {p z : Int} (hp : pok p) (h : rz p z) : jr z := ⟨by have := h.1; omega, by have := h.2; have := hp.2; omega⟩
theorem pok_jr {p : Int} (hp : pok p) : jr p := ⟨by have := hp.1; omega, by have := hp.2; omega⟩
theorem pok_ne {p : Int} (hp : pok p) : ¬ zl p = 0 := by
  intro h
  have h1 : zl p = zl 0 := h
  rw [zl_eq (pok_jr hp) ⟨by omega, by omega⟩] at h1
  have := hp.1
  omega
theorem rz_mul {p a b : Int} (hp : pok p) (ha : rz p a) (hb : rz p b) : 0 ≤ a * b ∧ a * b < 4611686018427387904 := by
  refine ⟨Int.mul_nonneg ha.1 hb.1, ?_⟩
  have h1 : ab a 2147483647 := ⟨by have := ha.1; omega, by have := ha.2; have := hp.2; omega⟩
  have h2 : ab b 2147483647 := ⟨by have := hb.1; omega, by have := hb.2; have := hp.2; omega⟩
  have := (ab_mul h1 h2).2
  omega
theorem zl_rm {x : Int64} {p a : Int} (hp : pok p) (hx : x = zl a) (h0 : 0 ≤ a) (ha : a < 9223372036854775808) : x - x / zl p * zl p = zl (a % p) := by
  rw [hx, zl_rem ⟨by omega, ha⟩ (pok_jr hp), Int.tmod_eq_emod_of_nonneg h0]
def invp (p z : Int) : Int := ((z % p) ^ (p - 2).toNat) % p
def oMod (p : Int) : xH := fun st G K => match st with
  | .long v :: .ref k0 :: r => (match Nat.beq k0 0 && xrs r 8 with
    | true => xGRm G (fun _ _ _ _ _ pp _ _ _ _ _ _ _ _ _ _ _ _ => pp = zl p ∧ ∃ z : Int, v = zl z ∧ jr z ∧ K (.long (zl (z % p)) :: r) G)
    | false => False)
  | _ => False
def oInv (p : Int) : xH := fun st G K => match st with
  | .long v :: .ref k0 :: r => (match Nat.beq k0 0 && xrs r 8 with
    | true => xGRm G (fun _ _ _ _ _ pp _ _ _ _ _ _ _ _ _ _ _ _ => pp = zl p ∧ ∃ z : Int, v = zl z ∧ jr z ∧ K (.long (zl (invp p z)) :: r) G)
    | false => False)
  | _ => False
set_option maxHeartbeats 4000000 in
set_option maxRecDepth 100000 in
theorem c_mod (l : Launch) (n nm ng ns ngr : Int32) (av be : Int64) (so ro tb gv sd gr : Nat → Int32) (row table one two : Nat → Int64) (p : Int) (hp : pok p) (z : Int) (hz : jr z) : xM l yX11_mod cX11_mod 5 (some .long) rX11_mod [.ref 0, .long (zl z)] (GR n nm ng ns ngr (zl p) av be so ro tb gv sd gr row table one two) (fun r G => r = some (.long (zl (z % p))) ∧ G = GR n nm ng ns ngr (zl p) av be so ro tb gv sd gr row table one two) := by
  refine xM.of (by decide) (Nat.le_of_ble_eq_true rfl) (fun X hX => ?_)
  have hp1 := hp.1
  have hp2 := hp.2
  have e0 := Int.tmod_add_mul_tdiv z p
  have e1 : (z.tmod p).natAbs < p.natAbs := by
    rw [Int.natAbs_tmod]
    exact Nat.mod_lt _ (by omega)
  have em : z % p = (z.tmod p) % p := by
    have := Int.add_mul_emod_self_left (z.tmod p) p (z.tdiv p)
    rw [e0] at this
    exact this
  have jt : jr (z.tmod p) := ⟨by omega, by omega⟩
  have er : zl z - zl z / zl p * zl p = zl (z.tmod p) := zl_rem hz (pok_jr hp)
  have st : ∀ w : Int64, w = zl (z.tmod p) → X 7 [some (.ref 0), some (.long (zl z)), none, some (.long w), none] [] (GR n nm ng ns ngr (zl p) av be so ro tb gv sd gr row table one two) := by
    rintro _ rfl
    refine hX.run (oc := []) kX11_mod_ok ftX11_ok ctX11_ok xnoc [] [] [] 40 ?_
    refine ⟨fun h => ?_, fun h => ?_⟩
    · have h1 : zl 0 ≤ zl (z.tmod p) := lgc_ge.mp h
      rw [zl_le ⟨by omega, by omega⟩ jt] at h1
      rw [em, Int.emod_eq_of_lt h1 (by omega)]
      exact ⟨rfl, rfl⟩
    · have h1 : ¬ zl 0 ≤ zl (z.tmod p) := fun q => h (lgc_ge.mpr q)
      rw [zl_le ⟨by omega, by omega⟩ jt] at h1
      have e2 : z % p = z.tmod p + p := by
        rw [em, ← Int.add_emod_right]
        exact Int.emod_eq_of_lt (by omega) (by omega)
      rw [e2, ← zl_add]
      exact ⟨rfl, rfl⟩
  refine hX.run (oc := []) kX11_mod_ok ftX11_ok ctX11_ok xnoc [7] [] [] 40 ?_
  exact ⟨pok_ne hp, st _ er⟩
theorem oMod_ok {l : Launch} {cc : ByteArray} {R : Room} {ret : Option FieldType} {post : Option Value → List xE → Prop} {nL : Nat} {X : Nat → List (Option Value) → List Value → List xE → Prop} (hX : xR l RX11 cc R ret post nL X) (hR : rX11_mod.frames + 1 ≤ R.frames ∧ 8 + (5 + 11) + rX11_mod.locals ≤ R.locals) {p : Int} (hp : pok p) : xHq cc X (280, oMod p) := by
  intro pc lv st G K ix hd hk h
  rcases hd with ⟨e, hd⟩ | ⟨e, hd⟩
  · have e : 280 = 2 * ix := e
    have : ix = 140 := by omega
    subst this
    unfold oMod at h
    dsimp only at h
    split at h
    next v k0 r =>
      split at h
      next hr =>
        simp only [Bool.and_eq_true] at hr
        obtain ⟨hk0, hr⟩ := hr
        have hk0 := Nat.eq_of_beq_eq_true hk0
        subst hk0
        obtain ⟨n9, nm9, ng9, ns9, ngr9, pp9, ab9, be9, so9, ro9, tb9, gv9, sd9, gr9, row9, table9, one9, two9, rfl, h9⟩ := xGRm_ok h
        clear h
        obtain ⟨rfl, z, rfl, hz, h⟩ := h9
        refine hX.callV0 (c_mod l n9 nm9 ng9 ns9 ngr9 ab9 be9 so9 ro9 tb9 gv9 sd9 gr9 row9 table9 one9 two9 p hp z hz) yX11_mod_ok lkX11_140 ivX11_mod slX11_mod ⟨rfl, rfl, hR.1, hR.2⟩ hd rfl rfl (xrs_ok hr) rfl rfl rfl (fun _ _ q => by rw [q.2]) (fun r9 G1 q => ?_)
        obtain ⟨rfl, rfl⟩ := q
        exact hk _ _ h
      next => exact h.elim
    next => exact h.elim
  · have e : 280 = 2 * ix + 1 := e
    omega
set_option maxHeartbeats 4000000 in
set_option maxRecDepth 100000 in
theorem zl_half {e : Int} (h0 : 0 ≤ e) (h1 : e < 4611686018427387904) : zl e >>> ((1 : Int32).toInt64 &&& 63) = zl (e / 2) := by
  obtain ⟨n, rfl⟩ : ∃ n : Nat, e = n := ⟨e.toNat, by omega⟩
  rw [show ((n : Int) / 2) = ((n / 2 : Nat) : Int) by omega, zl_lN, zl_lN]
  exact pf_shr (d := 1) (by decide) (by omega)
theorem zl_odd {e : Int} (h0 : 0 ≤ e) (h1 : e < 4611686018427387904) : zl e &&& zl 1 = zl (e % 2) := by
  obtain ⟨n, rfl⟩ : ∃ n : Nat, e = n := ⟨e.toNat, by omega⟩
  rw [show ((n : Int) % 2) = ((n % 2 : Nat) : Int) by omega, zl_lN, zl_lN]
  exact g_and1 (by omega)
theorem pow_odd (x : Int) (n : Nat) : x ^ (2 * n + 1) = x * (x * x) ^ n := by
  rw [Int.pow_succ, Int.pow_mul, Int.mul_comm, show x ^ 2 = x * x by rw [Int.pow_succ, Int.pow_succ, Int.pow_zero, Int.one_mul]]
theorem pow_even (x : Int) (n : Nat) : x ^ (2 * n) = (x * x) ^ n := by
  rw [Int.pow_mul, show x ^ 2 = x * x by rw [Int.pow_succ, Int.pow_succ, Int.pow_zero, Int.one_mul]]
theorem pow_mod (x p : Int) : ∀ n : Nat, (x % p) ^ n % p = x ^ n % p
  | 0 => by rw [Int.pow_zero, Int.pow_zero]
  | n + 1 => by rw [Int.pow_succ, Int.pow_succ, Int.mul_emod, pow_mod x p n, Int.emod_emod, ← Int.mul_emod]
theorem mul_pow_mod (r x p : Int) (n : Nat) : (r % p) * (x % p) ^ n % p = r * x ^ n % p := by
  rw [Int.mul_emod, pow_mod, Int.emod_emod, ← Int.mul_emod]
set_option maxHeartbeats 4000000 in
set_option maxRecDepth 100000 in
theorem c_inverse (l : Launch) (n nm ng ns ngr : Int32) (av be : Int64) (so ro tb gv sd gr : Nat → Int32) (row table one two : Nat → Int64) (p : Int) (hp : pok p) (z : Int) (hz : jr z) : xM l yX11_inverse cX11_inverse 9 (some .long) rX11_inverse [.ref 0, .long (zl z)] (GR n nm ng ns ngr (zl p) av be so ro tb gv sd gr row table one two) (fun r G => r = some (.long (zl (invp p z))) ∧ G = GR n nm ng ns ngr (zl p) av be so ro tb gv sd gr row table one two) := by
  refine xM.of (by decide) (Nat.le_of_ble_eq_true rfl) (fun X hX => ?_)
  have hp1 := hp.1
  have hp2 := hp.2
  have hoc := xoc1 (oMod_ok hX (by decide) hp) xnoc
  have main : ∀ (d : Nat) (r x e : Int) (w1 w2 w3 : Int64), e.toNat < d → 0 ≤ e → e < p → rz p r → rz p x → r * x ^ e.toNat % p = invp p z → w1 = zl r → w2 = zl x → w3 = zl e → X 19 [some (.ref 0), some (.long (zl z)), none, some (.long w1), none, some (.long w2), none, some (.long w3), none] [] (GR n nm ng ns ngr (zl p) av be so ro tb gv sd gr row table one two) := by
    intro d
    induction d with
    | zero =>
      intro r x e w1 w2 w3 hd
      omega
    | succ d ih =>
      rintro r x e _ _ _ hd he hep hr hx hv rfl rfl rfl
      have je : jr e := ⟨by omega, by omega⟩
      have eo := zl_odd he (by omega)
      have eh := zl_half he (by omega)
      have hxx := rz_mul hp hx hx
      have hrx := rz_mul hp hr hx
      have hr2 := rz_mod hp (r * x)
      have hx2 := rz_mod hp (x * x)
      refine hX.run (oc := [(280, oMod p)]) kX11_inverse_ok ftX11_ok ctX11_ok hoc [19] [] [] 60 ?_
      refine ⟨fun h => ?_, fun h => ?_⟩
      · have h1 : zl e ≤ zl 0 := lgc_le.mp h
        rw [zl_le je ⟨by omega, by omega⟩] at h1
        have h2 : e.toNat = 0 := by omega
        rw [h2, Int.pow_zero, Int.mul_one, Int.emod_eq_of_lt hr.1 hr.2] at hv
        rw [hv]
        exact ⟨rfl, rfl⟩
      · have h1 : ¬ zl e ≤ zl 0 := fun q => h (lgc_le.mpr q)
        rw [zl_le je ⟨by omega, by omega⟩] at h1
        refine ⟨fun h2 => ?_, fun h2 => ?_⟩
        · have h3 : e % 2 = 1 := lce h2 eo rfl ⟨by omega, by omega⟩ ⟨by omega, by omega⟩
          refine ⟨pok_ne hp, pok_ne hp, ?_⟩
          refine ih _ _ (e / 2) _ _ _ (by omega) (by omega) (by omega) hr2 hx2 ?_ (zl_rm hp (zl_mul _ _) hrx.1 (by omega)) (zl_rm hp (zl_mul _ _) hxx.1 (by omega)) eh
          rw [mul_pow_mod, ← hv, show e.toNat = 2 * (e / 2).toNat + 1 by omega, pow_odd, Int.mul_assoc]
        · have h3 : ¬ e % 2 = 1 := lcn h2 eo rfl
          refine ⟨pok_ne hp, ?_⟩
          refine ih _ _ (e / 2) _ _ _ (by omega) (by omega) (by omega) hr hx2 ?_ rfl (zl_rm hp (zl_mul _ _) hxx.1 (by omega)) eh
          have e5 : r = r % p := (Int.emod_eq_of_lt hr.1 hr.2).symm
          rw [e5, mul_pow_mod, ← hv, show e.toNat = 2 * (e / 2).toNat by omega, pow_even]
  refine hX.run (oc := [(280, oMod p)]) kX11_inverse_ok ftX11_ok ctX11_ok hoc [19] [] [] 60 ?_
  refine ⟨rfl, z, rfl, hz, ?_⟩
  refine main (p - 2).toNat.succ 1 (z % p) (p - 2) _ _ _ (Nat.lt_succ_self _) (by omega) (by omega) ⟨by omega, by omega⟩ (rz_mod hp z) ?_ rfl rfl (zl_sub p 2)
  unfold invp
  rw [Int.one_mul]
theorem oInv_ok {l : Launch} {cc : ByteArray} {R : Room} {ret : Option FieldType} {post : Option Value → List xE → Prop} {nL : Nat} {X : Nat → List (Option Value) → List Value → List xE → Prop} (hX : xR l RX11 cc R ret post nL X) (hR : rX11_inverse.frames + 1 ≤ R.frames ∧ 8 + (9 + 11) + rX11_inverse.locals ≤ R.locals) {p : Int} (hp : pok p) : xHq cc X (300, oInv p) := by
  intro pc lv st G K ix hd hk h
  rcases hd with ⟨e, hd⟩ | ⟨e, hd⟩
  · have e : 300 = 2 * ix := e
    have : ix = 150 := by omega
    subst this
    unfold oInv at h
    dsimp only at h
    split at h
    next v k0 r =>
      split at h
      next hr =>
        simp only [Bool.and_eq_true] at hr
        obtain ⟨hk0, hr⟩ := hr
        have hk0 := Nat.eq_of_beq_eq_true hk0
        subst hk0
        obtain ⟨n9, nm9, ng9, ns9, ngr9, pp9, ab9, be9, so9, ro9, tb9, gv9, sd9, gr9, row9, table9, one9, two9, rfl, h9⟩ := xGRm_ok h
        clear h
        obtain ⟨rfl, z, rfl, hz, h⟩ := h9
        refine hX.callV0 (c_inverse l n9 nm9 ng9 ns9 ngr9 ab9 be9 so9 ro9 tb9 gv9 sd9 gr9 row9 table9 one9 two9 p hp z hz) yX11_inverse_ok lkX11_150 ivX11_inverse slX11_inverse ⟨rfl, rfl, hR.1, hR.2⟩ hd rfl rfl (xrs_ok hr) rfl rfl rfl (fun _ _ q => by rw [q.2]) (fun r9 G1 q => ?_)
        obtain ⟨rfl, rfl⟩ := q
        exact hk _ _ h
      next => exact h.elim
    next => exact h.elim
  · have e : 300 = 2 * ix + 1 := e
    omega
def trn (S : SO) (V : SV) (f i k : Nat) : Int := crs (gq S V (f + (i + 1) % 3)) (gq S V (f + (i + 2) % 3)) k
def shr (S : SO) (V : SV) (f i : Nat) : Int := trn S V f i 0 * gq S V (f + 3) 0 + trn S V f i 1 * gq S V (f + 3) 1 + trn S V f i 2 * gq S V (f + 3) 2
theorem trn_bd {S : SO} {V : SV} {so ro gv : Nat → Int32} (hS : RO S so ro) (hV : RV 8 S.1 V gv) {f i k : Nat} (hf : f + 2 < V.1) : ab (trn S V f i k) 500000 := by
  have h1 := Nat.mod_lt (i + 1) (show 0 < 3 by omega)
  have h2 := Nat.mod_lt (i + 2) (show 0 < 3 by omega)
  exact crs_bd (fun t ht => gq_bd hS hV (by omega) ht) (fun t ht => gq_bd hS hV (by omega) ht) k
theorem shr_bd {S : SO} {V : SV} {so ro gv : Nat → Int32} (hS : RO S so ro) (hV : RV 8 S.1 V gv) {f i : Nat} (hf : f + 3 < V.1) : ab (shr S V f i) 750000000 :=
  ab_le (ab_add (ab_add (ab_mul (trn_bd hS hV (by omega)) (gq_bd hS hV hf (by omega))) (ab_mul (trn_bd hS hV (by omega)) (gq_bd hS hV hf (by omega)))) (ab_mul (trn_bd hS hV (by omega)) (gq_bd hS hV hf (by omega)))) (by decide)
def oTurn (S : SO) (V : SV) (so ro gv : Nat → Int32) : xH := fun st G K => match st with
  | .int k :: .int i :: .int f :: .ref k0 :: r => (match Nat.beq k0 0 && xrs r 8 with
    | true => xGRm G (fun n _ ng _ _ _ _ _ so2 ro2 _ gv2 _ _ _ _ _ _ => (n = nI S.1 ∧ ng = nI V.1 ∧ so2 = so ∧ ro2 = ro ∧ gv2 = gv) ∧ ∃ f' i' k' : Nat, f = nI f' ∧ i = nI i' ∧ k = nI k' ∧ (f' + 2 < V.1 ∧ i' < 3 ∧ k' < 3) ∧ K (.long (zl (trn S V f' i' k')) :: r) G)
    | false => False)
  | _ => False
def oShare (S : SO) (V : SV) (so ro gv : Nat → Int32) : xH := fun st G K => match st with
  | .int i :: .int f :: .ref k0 :: r => (match Nat.beq k0 0 && xrs r 8 with
    | true => xGRm G (fun n _ ng _ _ _ _ _ so2 ro2 _ gv2 _ _ _ _ _ _ => (n = nI S.1 ∧ ng = nI V.1 ∧ so2 = so ∧ ro2 = ro ∧ gv2 = gv) ∧ ∃ f' i' : Nat, f = nI f' ∧ i = nI i' ∧ (f' + 3 < V.1 ∧ i' < 3) ∧ K (.long (zl (shr S V f' i')) :: r) G)
    | false => False)
  | _ => False
set_option maxHeartbeats 4000000 in
set_option maxRecDepth 100000 in
theorem c_turned (l : Launch) (nm ns ngr : Int32) (pp av be : Int64) (so ro tb gv sd gr : Nat → Int32) (row table one two : Nat → Int64) (S : SO) (V : SV) (hS : RO S so ro) (hV : RV 8 S.1 V gv) (f i k : Nat) (hf : f + 2 < V.1) (hi : i < 3) (hk : k < 3) : xM l yX11_turned cX11_turned 4 (some .long) rX11_turned [.ref 0, .int (nI f), .int (nI i), .int (nI k)] (GR (nI S.1) nm (nI V.1) ns ngr pp av be so ro tb gv sd gr row table one two) (fun r G => r = some (.long (zl (trn S V f i k))) ∧ G = GR (nI S.1) nm (nI V.1) ns ngr pp av be so ro tb gv sd gr row table one two) := by
  refine xM.of (by decide) (Nat.le_of_ble_eq_true rfl) (fun X hX => ?_)
  have hoc := xoc1 (oPart_ok hX (by decide) hS) xnoc
  have hV8 := hV.1
  rcases (show i = 0 ∨ i = 1 ∨ i = 2 by omega) with rfl | rfl | rfl <;> rcases (show k = 0 ∨ k = 1 ∨ k = 2 by omega) with rfl | rfl | rfl
  · refine hX.run (oc := [(190, oPart S so ro)]) kX11_turned_ok ftX11_ok ctX11_ok hoc [] [] [12, 24] 40 ?_
    refine ⟨f + 1, nI_add f 1, by omega, by omega, ?_⟩
    refine ⟨f + 2, nI_add f 2, by omega, by omega, ?_⟩
    refine ⟨⟨rfl, rfl, rfl⟩, V.2 (f + 1), V.2 (f + 2), (hV.2 (f + 1) (by omega)).1, (hV.2 (f + 2) (by omega)).1, ⟨(hV.2 (f + 1) (by omega)).2, (hV.2 (f + 2) (by omega)).2⟩, ?_⟩
    exact ⟨rfl, rfl⟩
  · refine hX.run (oc := [(190, oPart S so ro)]) kX11_turned_ok ftX11_ok ctX11_ok hoc [] [] [12, 24] 40 ?_
    refine ⟨f + 1, nI_add f 1, by omega, by omega, ?_⟩
    refine ⟨f + 2, nI_add f 2, by omega, by omega, ?_⟩
    refine ⟨⟨rfl, rfl, rfl⟩, V.2 (f + 1), V.2 (f + 2), (hV.2 (f + 1) (by omega)).1, (hV.2 (f + 2) (by omega)).1, ⟨(hV.2 (f + 1) (by omega)).2, (hV.2 (f + 2) (by omega)).2⟩, ?_⟩
    exact ⟨rfl, rfl⟩
  · refine hX.run (oc := [(190, oPart S so ro)]) kX11_turned_ok ftX11_ok ctX11_ok hoc [] [] [12, 24] 40 ?_
    refine ⟨f + 1, nI_add f 1, by omega, by omega, ?_⟩
    refine ⟨f + 2, nI_add f 2, by omega, by omega, ?_⟩
    refine ⟨⟨rfl, rfl, rfl⟩, V.2 (f + 1), V.2 (f + 2), (hV.2 (f + 1) (by omega)).1, (hV.2 (f + 2) (by omega)).1, ⟨(hV.2 (f + 1) (by omega)).2, (hV.2 (f + 2) (by omega)).2⟩, ?_⟩
    exact ⟨rfl, rfl⟩
  · refine hX.run (oc := [(190, oPart S so ro)]) kX11_turned_ok ftX11_ok ctX11_ok hoc [] [] [12, 24] 40 ?_
    refine ⟨f + 2, nI_add f 2, by omega, by omega, ?_⟩
    refine ⟨f + 0, nI_add f 0, by omega, by omega, ?_⟩
    refine ⟨⟨rfl, rfl, rfl⟩, V.2 (f + 2), V.2 (f + 0), (hV.2 (f + 2) (by omega)).1, (hV.2 (f + 0) (by omega)).1, ⟨(hV.2 (f + 2) (by omega)).2, (hV.2 (f + 0) (by omega)).2⟩, ?_⟩
    exact ⟨rfl, rfl⟩
  · refine hX.run (oc := [(190, oPart S so ro)]) kX11_turned_ok ftX11_ok ctX11_ok hoc [] [] [12, 24] 40 ?_
    refine ⟨f + 2, nI_add f 2, by omega, by omega, ?_⟩
    refine ⟨f + 0, nI_add f 0, by omega, by omega, ?_⟩
    refine ⟨⟨rfl, rfl, rfl⟩, V.2 (f + 2), V.2 (f + 0), (hV.2 (f + 2) (by omega)).1, (hV.2 (f + 0) (by omega)).1, ⟨(hV.2 (f + 2) (by omega)).2, (hV.2 (f + 0) (by omega)).2⟩, ?_⟩
    exact ⟨rfl, rfl⟩
  · refine hX.run (oc := [(190, oPart S so ro)]) kX11_turned_ok ftX11_ok ctX11_ok hoc [] [] [12, 24] 40 ?_
    refine ⟨f + 2, nI_add f 2, by omega, by omega, ?_⟩
    refine ⟨f + 0, nI_add f 0, by omega, by omega, ?_⟩
    refine ⟨⟨rfl, rfl, rfl⟩, V.2 (f + 2), V.2 (f + 0), (hV.2 (f + 2) (by omega)).1, (hV.2 (f + 0) (by omega)).1, ⟨(hV.2 (f + 2) (by omega)).2, (hV.2 (f + 0) (by omega)).2⟩, ?_⟩
    exact ⟨rfl, rfl⟩
  · refine hX.run (oc := [(190, oPart S so ro)]) kX11_turned_ok ftX11_ok ctX11_ok hoc [] [] [12, 24] 40 ?_
    refine ⟨f + 0, nI_add f 0, by omega, by omega, ?_⟩
    refine ⟨f + 1, nI_add f 1, by omega, by omega, ?_⟩
    refine ⟨⟨rfl, rfl, rfl⟩, V.2 (f + 0), V.2 (f + 1), (hV.2 (f + 0) (by omega)).1, (hV.2 (f + 1) (by omega)).1, ⟨(hV.2 (f + 0) (by omega)).2, (hV.2 (f + 1) (by omega)).2⟩, ?_⟩
    exact ⟨rfl, rfl⟩
  · refine hX.run (oc := [(190, oPart S so ro)]) kX11_turned_ok ftX11_ok ctX11_ok hoc [] [] [12, 24] 40 ?_
    refine ⟨f + 0, nI_add f 0, by omega, by omega, ?_⟩
    refine ⟨f + 1, nI_add f 1, by omega, by omega, ?_⟩
    refine ⟨⟨rfl, rfl, rfl⟩, V.2 (f + 0), V.2 (f + 1), (hV.2 (f + 0) (by omega)).1, (hV.2 (f + 1) (by omega)).1, ⟨(hV.2 (f + 0) (by omega)).2, (hV.2 (f + 1) (by omega)).2⟩, ?_⟩
    exact ⟨rfl, rfl⟩
  · refine hX.run (oc := [(190, oPart S so ro)]) kX11_turned_ok ftX11_ok ctX11_ok hoc [] [] [12, 24] 40 ?_
    refine ⟨f + 0, nI_add f 0, by omega, by omega, ?_⟩
    refine ⟨f + 1, nI_add f 1, by omega, by omega, ?_⟩
    refine ⟨⟨rfl, rfl, rfl⟩, V.2 (f + 0), V.2 (f + 1), (hV.2 (f + 0) (by omega)).1, (hV.2 (f + 1) (by omega)).1, ⟨(hV.2 (f + 0) (by omega)).2, (hV.2 (f + 1) (by omega)).2⟩, ?_⟩
    exact ⟨rfl, rfl⟩

theorem oTurn_ok {l : Launch} {cc : ByteArray} {R : Room} {ret : Option FieldType} {post : Option Value → List xE → Prop} {nL : Nat} {X : Nat → List (Option Value) → List Value → List xE → Prop} (hX : xR l RX11 cc R ret post nL X) (hR : rX11_turned.frames + 1 ≤ R.frames ∧ 8 + (4 + 11) + rX11_turned.locals ≤ R.locals) {S : SO} {V : SV} {so ro gv : Nat → Int32} (hS : RO S so ro) (hV : RV 8 S.1 V gv) : xHq cc X (288, oTurn S V so ro gv) := by
  intro pc lv st G K ix hd hk h
  rcases hd with ⟨e, hd⟩ | ⟨e, hd⟩
  · have e : 288 = 2 * ix := e
    have : ix = 144 := by omega
    subst this
    unfold oTurn at h
    dsimp only at h
    split at h
    next k i f k0 r =>
      split at h
      next hr =>
        simp only [Bool.and_eq_true] at hr
        obtain ⟨hk0, hr⟩ := hr
        have hk0 := Nat.eq_of_beq_eq_true hk0
        subst hk0
        obtain ⟨n9, nm9, ng9, ns9, ngr9, pp9, ab9, be9, so9, ro9, tb9, gv9, sd9, gr9, row9, table9, one9, two9, rfl, h9⟩ := xGRm_ok h
        clear h
        obtain ⟨⟨rfl, rfl, rfl, rfl, rfl⟩, f, i, k, rfl, rfl, rfl, ⟨h1, h2, h3⟩, h⟩ := h9
        refine hX.callV0 (c_turned l nm9 ns9 ngr9 pp9 ab9 be9 so9 ro9 tb9 gv9 sd9 gr9 row9 table9 one9 two9 S V hS hV f i k h1 h2 h3) yX11_turned_ok lkX11_144 ivX11_turned slX11_turned ⟨rfl, rfl, hR.1, hR.2⟩ hd rfl rfl (xrs_ok hr) rfl rfl rfl (fun _ _ q => by rw [q.2]) (fun r9 G1 q => ?_)
        obtain ⟨rfl, rfl⟩ := q
        exact hk _ _ h
      next => exact h.elim
    next => exact h.elim
  · have e : 288 = 2 * ix + 1 := e
    omega
set_option maxHeartbeats 4000000 in
set_option maxRecDepth 100000 in
theorem c_share (l : Launch) (nm ns ngr : Int32) (pp av be : Int64) (so ro tb gv sd gr : Nat → Int32) (row table one two : Nat → Int64) (S : SO) (V : SV) (hS : RO S so ro) (hV : RV 8 S.1 V gv) (f i : Nat) (hf : f + 3 < V.1) (hi : i < 3) : xM l yX11_share cX11_share 6 (some .long) rX11_share [.ref 0, .int (nI f), .int (nI i)] (GR (nI S.1) nm (nI V.1) ns ngr pp av be so ro tb gv sd gr row table one two) (fun r G => r = some (.long (zl (shr S V f i))) ∧ G = GR (nI S.1) nm (nI V.1) ns ngr pp av be so ro tb gv sd gr row table one two) := by
  refine xM.of (by decide) (Nat.le_of_ble_eq_true rfl) (fun X hX => ?_)
  have hoc := xoc1 (oAtS_ok hX (by decide) hS) (xoc1 (oTurn_ok hX (by decide) hS hV) xnoc)
  have hV8 := hV.1
  refine hX.run (oc := [(156, oAtS S ro), (288, oTurn S V so ro gv)]) kX11_share_ok ftX11_ok ctX11_ok hoc [] [8] [28] 120 ?_
  refine ⟨⟨rfl, rfl, rfl, rfl, rfl⟩, f, i, 0, rfl, rfl, rfl, ⟨(by omega), (by omega), (by omega)⟩, ?_⟩
  refine ⟨f + 3, nI_add f 3, by omega, by omega, ?_⟩
  refine ⟨rfl, V.2 (f + 3), (hV.2 (f + 3) (by omega)).1, ⟨(hV.2 (f + 3) (by omega)).2, wid3 _ _ (by decide)⟩, ?_⟩
  refine ⟨⟨rfl, rfl, rfl, rfl, rfl⟩, f, i, 1, rfl, rfl, rfl, ⟨(by omega), (by omega), (by omega)⟩, ?_⟩
  refine ⟨f + 3, nI_add f 3, by omega, by omega, ?_⟩
  refine ⟨rfl, V.2 (f + 3), (hV.2 (f + 3) (by omega)).1, ⟨(hV.2 (f + 3) (by omega)).2, wid3 _ _ (by decide)⟩, ?_⟩
  refine ⟨⟨rfl, rfl, rfl, rfl, rfl⟩, f, i, 2, rfl, rfl, rfl, ⟨(by omega), (by omega), (by omega)⟩, ?_⟩
  refine ⟨f + 3, nI_add f 3, by omega, by omega, ?_⟩
  refine ⟨rfl, V.2 (f + 3), (hV.2 (f + 3) (by omega)).1, ⟨(hV.2 (f + 3) (by omega)).2, wid3 _ _ (by decide)⟩, ?_⟩
  refine ⟨?_, rfl⟩
  have e : ∀ v : Int64, v = zl 0 → v + zl (trn S V f i 0) * zl (gq S V (f + 3) 0) + zl (trn S V f i 1) * zl (gq S V (f + 3) 1) + zl (trn S V f i 2) * zl (gq S V (f + 3) 2) = zl (shr S V f i) := by
    rintro v rfl
    simp only [zl_mul, zl_add]
    rw [Int.zero_add]
    rfl
  exact congrArg (fun x => some (Value.long x)) (e _ rfl)
theorem oShare_ok {l : Launch} {cc : ByteArray} {R : Room} {ret : Option FieldType} {post : Option Value → List xE → Prop} {nL : Nat} {X : Nat → List (Option Value) → List Value → List xE → Prop} (hX : xR l RX11 cc R ret post nL X) (hR : rX11_share.frames + 1 ≤ R.frames ∧ 8 + (6 + 11) + rX11_share.locals ≤ R.locals) {S : SO} {V : SV} {so ro gv : Nat → Int32} (hS : RO S so ro) (hV : RV 8 S.1 V gv) : xHq cc X (294, oShare S V so ro gv) := by
  intro pc lv st G K ix hd hk h
  rcases hd with ⟨e, hd⟩ | ⟨e, hd⟩
  · have e : 294 = 2 * ix := e
    have : ix = 147 := by omega
    subst this
    unfold oShare at h
    dsimp only at h
    split at h
    next i f k0 r =>
      split at h
      next hr =>
        simp only [Bool.and_eq_true] at hr
        obtain ⟨hk0, hr⟩ := hr
        have hk0 := Nat.eq_of_beq_eq_true hk0
        subst hk0
        obtain ⟨n9, nm9, ng9, ns9, ngr9, pp9, ab9, be9, so9, ro9, tb9, gv9, sd9, gr9, row9, table9, one9, two9, rfl, h9⟩ := xGRm_ok h
        clear h
        obtain ⟨⟨rfl, rfl, rfl, rfl, rfl⟩, f, i, rfl, rfl, ⟨h1, h2⟩, h⟩ := h9
        refine hX.callV0 (c_share l nm9 ns9 ngr9 pp9 ab9 be9 so9 ro9 tb9 gv9 sd9 gr9 row9 table9 one9 two9 S V hS hV f i h1 h2) yX11_share_ok lkX11_147 ivX11_share slX11_share ⟨rfl, rfl, hR.1, hR.2⟩ hd rfl rfl (xrs_ok hr) rfl rfl rfl (fun _ _ q => by rw [q.2]) (fun r9 G1 q => ?_)
        obtain ⟨rfl, rfl⟩ := q
        exact hk _ _ h
      next => exact h.elim
    next => exact h.elim
  · have e : 294 = 2 * ix + 1 := e
    omega
