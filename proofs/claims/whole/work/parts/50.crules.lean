/-! switches, Math, arraycopy -/
theorem xR.tabIn {l : Launch} {own : String} {cc : ByteArray} {R : Room} {ret : Option FieldType} {post : Option Value → List xE → Prop} {nL : Nat} {X : Nat → List (Option Value) → List Value → List xE → Prop} (h : xR l own cc R ret post nL X) {pc len tgt : Nat} {dflt lo hi off : Int} {offs : Array Int} {x : Int32} {lv : List (Option Value)} {st : List Value} {G : List xE} (hdg : decode cc pc = .ok (.tableswitch dflt lo hi offs, len)) (h1 : ¬ x.toInt < lo) (h2 : ¬ hi < x.toInt) (ho : offs[(x.toInt - lo).toNat]? = some off) (ht : (pc : Int) + off = (tgt : Int)) (k : X tgt lv st G) : X pc lv (.int x :: st) G := by
  obtain ⟨p, e, s, m, args, below, meth, c, Q, dC, dI, ad, kI, kJ, kQ, A, H0, cells, slots, rfl, ⟨hx, hb, hml, hown, hts, hKK, hN⟩, hA, ⟨hcl, hsl⟩, -⟩ := h
  intro H locs ls hP hD hS hL
  exact lv_tableIn hx hb hdg h1 h2 ho ht (k H locs ls hP hD hS hL)
theorem xR.tabOut {l : Launch} {own : String} {cc : ByteArray} {R : Room} {ret : Option FieldType} {post : Option Value → List xE → Prop} {nL : Nat} {X : Nat → List (Option Value) → List Value → List xE → Prop} (h : xR l own cc R ret post nL X) {pc len tgt : Nat} {dflt lo hi : Int} {offs : Array Int} {x : Int32} {lv : List (Option Value)} {st : List Value} {G : List xE} (hdg : decode cc pc = .ok (.tableswitch dflt lo hi offs, len)) (h1 : x.toInt < lo ∨ hi < x.toInt) (ht : (pc : Int) + dflt = (tgt : Int)) (k : X tgt lv st G) : X pc lv (.int x :: st) G := by
  obtain ⟨p, e, s, m, args, below, meth, c, Q, dC, dI, ad, kI, kJ, kQ, A, H0, cells, slots, rfl, ⟨hx, hb, hml, hown, hts, hKK, hN⟩, hA, ⟨hcl, hsl⟩, -⟩ := h
  intro H locs ls hP hD hS hL
  exact lv_tableOut hx hb hdg h1 ht (k H locs ls hP hD hS hL)
theorem xR.look {l : Launch} {own : String} {cc : ByteArray} {R : Room} {ret : Option FieldType} {post : Option Value → List xE → Prop} {nL : Nat} {X : Nat → List (Option Value) → List Value → List xE → Prop} (h : xR l own cc R ret post nL X) {pc len tgt : Nat} {dflt off : Int} {ps : Array (Int × Int)} {x : Int32} {lv : List (Option Value)} {st : List Value} {G : List xE} (hdg : decode cc pc = .ok (.lookupswitch dflt ps, len)) (hp : (ps.toList.zip (ps.toList.drop 1)).all (fun (a, next) => a.1 < next.1) = true) (ho : Op.lookupswitch.offset ps.toList dflt x.toInt = off) (ht : (pc : Int) + off = (tgt : Int)) (k : X tgt lv st G) : X pc lv (.int x :: st) G := by
  obtain ⟨p, e, s, m, args, below, meth, c, Q, dC, dI, ad, kI, kJ, kQ, A, H0, cells, slots, rfl, ⟨hx, hb, hml, hown, hts, hKK, hN⟩, hA, ⟨hcl, hsl⟩, -⟩ := h
  intro H locs ls hP hD hS hL
  exact lv_lookup hx hb hdg hp ho ht (k H locs ls hP hD hS hL)
theorem mInit : Cond.initialized "java/lang/Math" ∈ xT := xT_at 3 (by decide +kernel) rfl
theorem mAbs_s : Cond.static Lib.MathLoose.abs_long.x ∈ xT := xT_at 267 (by decide +kernel) rfl
theorem mAbs_c : Cond.code Lib.MathLoose.abs_long.x Lib.MathLoose.abs_long.code 2 (some .long) ∈ xT := xT_at 268 (by decide +kernel) rfl
theorem mMax_s : Cond.static Lib.MathLoose.max_long.x ∈ xT := xT_at 541 (by decide +kernel) rfl
theorem mMax_c : Cond.code Lib.MathLoose.max_long.x Lib.MathLoose.max_long.code 4 (some .long) ∈ xT := xT_at 542 (by decide +kernel) rfl
theorem mMin_s : Cond.static Lib.MathLoose.min_long.x ∈ xT := xT_at 545 (by decide +kernel) rfl
theorem mMin_c : Cond.code Lib.MathLoose.min_long.x Lib.MathLoose.min_long.code 4 (some .long) ∈ xT := xT_at 546 (by decide +kernel) rfl
theorem mMinI_s : Cond.static Lib.Math.min.name ∈ xT := xT_at 30 (by decide +kernel) rfl
theorem mMinI_c : Cond.code Lib.Math.min.name Lib.Math.min.code 2 (some .int) ∈ xT := xT_at 31 (by decide +kernel) rfl
theorem lmX3_7 : Cond.methodLink RX3 7 Lib.MathLoose.abs_long.x ∈ xT := xT_at 266 (by decide +kernel) rfl
theorem lmX2_20 : Cond.methodLink RX2 20 Lib.MathLoose.abs_long.x ∈ xT := xT_at 523 (by decide +kernel) rfl
theorem lmX6_72 : Cond.methodLink RX6 72 Lib.MathLoose.abs_long.x ∈ xT := xT_at 539 (by decide +kernel) rfl
theorem lmX6_76 : Cond.methodLink RX6 76 Lib.MathLoose.max_long.x ∈ xT := xT_at 540 (by decide +kernel) rfl
theorem lmX6_53 : Cond.methodLink RX6 53 Lib.MathLoose.min_long.x ∈ xT := xT_at 544 (by decide +kernel) rfl
theorem lmX5_39 : Cond.methodLink RX5 39 Lib.Math.min.name ∈ xT := xT_at 365 (by decide +kernel) rfl
theorem lmX8_18 : Cond.methodLink RX8 18 Lib.Math.min.name ∈ xT := xT_at 29 (by decide +kernel) rfl
theorem lmX4_15 : Cond.methodLink RX4 15 Lib.Math.min.name ∈ xT := xT_at 52 (by decide +kernel) rfl
def oAbs : xH := fun st G K => match st with
  | .long x :: r => (match xrs r 8 with
    | true => K (.long (if 0 < x then x else -x) :: r) G
    | false => False)
  | _ => False
theorem oAbs_ok {l : Launch} {own : String} {cc : ByteArray} {R : Room} {ret : Option FieldType} {post : Option Value → List xE → Prop} {nL : Nat} {X : Nat → List (Option Value) → List Value → List xE → Prop} (hX : xR l own cc R ret post nL X) {idx : Nat} (hlk : Cond.methodLink own idx Lib.MathLoose.abs_long.x ∈ xT) (hR : 1 ≤ R.frames ∧ 21 ≤ R.locals) : xHq cc X (2 * idx + 1, oAbs) := by
  intro pc lv st G K ix hd hk h
  rcases hd with ⟨e, hd⟩ | ⟨e, hd⟩
  · have e : 2 * idx + 1 = 2 * ix := e
    omega
  · have e : 2 * idx + 1 = 2 * ix + 1 := e
    have : ix = idx := by omega
    subst this
    unfold oAbs at h
    dsimp only at h
    split at h
    next x r =>
      split at h
      next hr =>
        have k2 := hk _ _ h
        obtain ⟨p, e, s, m, args, below, meth, c, Q, dC, dI, ad, kI, kJ, kQ, A, H0, cells, slots, rfl, ⟨hx, hb, hml, hown, hts, hKK, hN⟩, hA, ⟨hcl, hsl⟩, -⟩ := hX
        intro H locs ls hP hD hS hL
        have hw := xrs_ok hr
        rw [← xcat_sum (ad := ad)] at hw
        exact va_mabs_long hx hb (hml.trans hL.1.symm) hown (hts _ hlk) (hts _ mAbs_s) (hts _ mInit) (hts _ mAbs_c) hR.1 (by have := hR.2; omega) hcl hsl hd (k2 H locs ls hP hD hS hL)
      next => exact h.elim
    next => exact h.elim
def oMax : xH := fun st G K => match st with
  | .long y :: .long x :: r => (match xrs r 8 with
    | true => K (.long (if y < x then x else y) :: r) G
    | false => False)
  | _ => False
theorem oMax_ok {l : Launch} {own : String} {cc : ByteArray} {R : Room} {ret : Option FieldType} {post : Option Value → List xE → Prop} {nL : Nat} {X : Nat → List (Option Value) → List Value → List xE → Prop} (hX : xR l own cc R ret post nL X) {idx : Nat} (hlk : Cond.methodLink own idx Lib.MathLoose.max_long.x ∈ xT) (hR : 1 ≤ R.frames ∧ 23 ≤ R.locals) : xHq cc X (2 * idx + 1, oMax) := by
  intro pc lv st G K ix hd hk h
  rcases hd with ⟨e, hd⟩ | ⟨e, hd⟩
  · have e : 2 * idx + 1 = 2 * ix := e
    omega
  · have e : 2 * idx + 1 = 2 * ix + 1 := e
    have : ix = idx := by omega
    subst this
    unfold oMax at h
    dsimp only at h
    split at h
    next y x r =>
      split at h
      next hr =>
        have k2 := hk _ _ h
        obtain ⟨p, e, s, m, args, below, meth, c, Q, dC, dI, ad, kI, kJ, kQ, A, H0, cells, slots, rfl, ⟨hx, hb, hml, hown, hts, hKK, hN⟩, hA, ⟨hcl, hsl⟩, -⟩ := hX
        intro H locs ls hP hD hS hL
        have hw := xrs_ok hr
        rw [← xcat_sum (ad := ad)] at hw
        exact va_mmax_long hx hb (hml.trans hL.1.symm) hown (hts _ hlk) (hts _ mMax_s) (hts _ mInit) (hts _ mMax_c) hR.1 (by have := hR.2; omega) hcl hsl hd (k2 H locs ls hP hD hS hL)
      next => exact h.elim
    next => exact h.elim
def oMin : xH := fun st G K => match st with
  | .long y :: .long x :: r => (match xrs r 8 with
    | true => K (.long (if y < x then y else x) :: r) G
    | false => False)
  | _ => False
theorem oMin_ok {l : Launch} {own : String} {cc : ByteArray} {R : Room} {ret : Option FieldType} {post : Option Value → List xE → Prop} {nL : Nat} {X : Nat → List (Option Value) → List Value → List xE → Prop} (hX : xR l own cc R ret post nL X) {idx : Nat} (hlk : Cond.methodLink own idx Lib.MathLoose.min_long.x ∈ xT) (hR : 1 ≤ R.frames ∧ 23 ≤ R.locals) : xHq cc X (2 * idx + 1, oMin) := by
  intro pc lv st G K ix hd hk h
  rcases hd with ⟨e, hd⟩ | ⟨e, hd⟩
  · have e : 2 * idx + 1 = 2 * ix := e
    omega
  · have e : 2 * idx + 1 = 2 * ix + 1 := e
    have : ix = idx := by omega
    subst this
    unfold oMin at h
    dsimp only at h
    split at h
    next y x r =>
      split at h
      next hr =>
        have k2 := hk _ _ h
        obtain ⟨p, e, s, m, args, below, meth, c, Q, dC, dI, ad, kI, kJ, kQ, A, H0, cells, slots, rfl, ⟨hx, hb, hml, hown, hts, hKK, hN⟩, hA, ⟨hcl, hsl⟩, -⟩ := hX
        intro H locs ls hP hD hS hL
        have hw := xrs_ok hr
        rw [← xcat_sum (ad := ad)] at hw
        exact va_mmin_long hx hb (hml.trans hL.1.symm) hown (hts _ hlk) (hts _ mMin_s) (hts _ mInit) (hts _ mMin_c) hR.1 (by have := hR.2; omega) hcl hsl hd (k2 H locs ls hP hD hS hL)
      next => exact h.elim
    next => exact h.elim
def oMinI : xH := fun st G K => match st with
  | .int y :: .int x :: r => (match xrs r 8 with
    | true => K (.int (if y < x then y else x) :: r) G
    | false => False)
  | _ => False
theorem oMinI_ok {l : Launch} {own : String} {cc : ByteArray} {R : Room} {ret : Option FieldType} {post : Option Value → List xE → Prop} {nL : Nat} {X : Nat → List (Option Value) → List Value → List xE → Prop} (hX : xR l own cc R ret post nL X) {idx : Nat} (hlk : Cond.methodLink own idx Lib.Math.min.name ∈ xT) (hR : 1 ≤ R.frames ∧ 21 ≤ R.locals) : xHq cc X (2 * idx + 1, oMinI) := by
  intro pc lv st G K ix hd hk h
  rcases hd with ⟨e, hd⟩ | ⟨e, hd⟩
  · have e : 2 * idx + 1 = 2 * ix := e
    omega
  · have e : 2 * idx + 1 = 2 * ix + 1 := e
    have : ix = idx := by omega
    subst this
    unfold oMinI at h
    dsimp only at h
    split at h
    next y x r =>
      split at h
      next hr =>
        have k2 := hk _ _ h
        obtain ⟨p, e, s, m, args, below, meth, c, Q, dC, dI, ad, kI, kJ, kQ, A, H0, cells, slots, rfl, ⟨hx, hb, hml, hown, hts, hKK, hN⟩, hA, ⟨hcl, hsl⟩, -⟩ := hX
        intro H locs ls hP hD hS hL
        have hw := xrs_ok hr
        rw [← xcat_sum (ad := ad)] at hw
        exact va_mmin hx hb (hml.trans hL.1.symm) hown (hts _ hlk) (hts _ mMinI_s) (hts _ mInit) (hts _ mMinI_c) hR.1 (by have := hR.2; omega) hcl hsl hd (k2 H locs ls hP hD hS hL)
      next => exact h.elim
    next => exact h.elim
theorem cpS : Cond.static arraycopyName ∈ xT := xT_at 561 (by decide +kernel) rfl
theorem cpN : Cond.native arraycopyName ∈ xT := xT_at 562 (by decide +kernel) rfl
theorem cpI : Cond.initialized "java/lang/System" ∈ xT := xT_at 14 (by decide +kernel) rfl
theorem cpX6_59 : Cond.methodLink RX6 59 arraycopyName ∈ xT := xT_at 560 (by decide +kernel) rfl
theorem cpX10_225 : Cond.methodLink RX10 225 arraycopyName ∈ xT := xT_at 587 (by decide +kernel) rfl
def oCopy : xH := fun st G K => match st with
  | [.int n, .int dp, .ref k1, .int sp, .ref k0] => (match xnth G k0 with
    | some (.inl (n0, .inr (.inl f))) => (match xnth G k1 with
      | some (.inl (n1, .inr (.inl g))) => (match (!decide (sp < 0)) && ((!decide (dp < 0)) && ((!decide (n < 0)) && (Nat.ble (sp.toNatClampNeg + n.toNatClampNeg) n0 && Nat.ble (dp.toNatClampNeg + n.toNatClampNeg) n1))) with
        | true => xset (.inl (n1, .inr (.inl (va_cpy f g sp.toNatClampNeg dp.toNatClampNeg n.toNatClampNeg)))) G k1 (fun G => K [] G)
        | false => False)
      | _ => False)
    | _ => False)
  | _ => False
theorem oCopy_ok {l : Launch} {own : String} {cc : ByteArray} {R : Room} {ret : Option FieldType} {post : Option Value → List xE → Prop} {nL : Nat} {X : Nat → List (Option Value) → List Value → List xE → Prop} (hX : xR l own cc R ret post nL X) {idx : Nat} (hlk : Cond.methodLink own idx arraycopyName ∈ xT) (hR : 1 ≤ R.frames ∧ 18 ≤ R.locals) : xHq cc X (2 * idx + 1, oCopy) := by
  intro pc lv st G K ix hd hk h
  rcases hd with ⟨e, hd⟩ | ⟨e, hd⟩
  · have e : 2 * idx + 1 = 2 * ix := e
    omega
  · have e : 2 * idx + 1 = 2 * ix + 1 := e
    have : ix = idx := by omega
    subst this
    unfold oCopy at h
    dsimp only at h
    split at h
    next n dp k1 sp k0 =>
      split at h
      next n0 f h0 =>
        split at h
        next n1 g h1 =>
          split at h
          next hc =>
            simp only [Bool.and_eq_true, Bool.not_eq_true', decide_eq_false_iff_not] at hc
            obtain ⟨c1, c2, c3, c4, c5⟩ := hc
            have c4 := Nat.le_of_ble_eq_true c4
            have c5 := Nat.le_of_ble_eq_true c5
            obtain ⟨hk1, h⟩ := xset_ok _ _ _ _ h
            have k2 := hk _ _ h
            obtain ⟨p, e, s, m, args, below, meth, c, Q, dC, dI, ad, kI, kJ, kQ, A, H0, cells, slots, rfl, ⟨hx, hb, hml, hown, hts, hKK, hN⟩, hA, ⟨hcl, hsl⟩, -⟩ := hX
            intro H locs ls hP hD hS hL
            have a0 := xw_at (ad := ad) (kI := kI) (kJ := kJ) (kQ := kQ) (show G[k0]? = some (.inl (n0, .inr (.inl f))) by rw [← xnth_eq]; exact h0)
            have a1 := xw_at (ad := ad) (kI := kI) (kJ := kJ) (kQ := kQ) (show G[k1]? = some (.inl (n1, .inr (.inl g))) by rw [← xnth_eq]; exact h1)
            refine va_copyl (ty := .long) hx hb (hml.trans hL.1.symm) hown (hts _ hlk) (hts _ cpN) (hts _ cpS) (hts _ cpI) hKK hP hD hS k0 k1 1 1 a0 a1 rfl rfl rfl c1 c2 c3 c4 c5 (fun i hi => rfl) hR.1 (by have := hR.2; show 0 + (5 + 2 + 11) ≤ _; omega) hd (fun H1 locs1 p1 d1 s1 => ?_)
            have e1 := xw_set (ad := ad) (kI := kI) (kJ := kJ) (kQ := kQ) (G := G) (k := k1) (e := .inl (n1, .inr (.inl (va_cpy f g sp.toNatClampNeg dp.toNatClampNeg n.toNatClampNeg))))
            exact k2 H1 locs1 ls (by rw [← e1]; exact p1) (by rw [← e1]; exact d1) s1 hL
          next => exact h.elim
        next => exact h.elim
      next => exact h.elim
    next => exact h.elim
