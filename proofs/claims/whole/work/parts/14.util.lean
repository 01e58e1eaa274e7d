/-! small rows: branches of a run, forgotten locals, numbers -/
theorem xbr {c A B : Prop} [Decidable c] (h1 : c → A) (h2 : ¬ c → B) : cond (decide c) A B := by
  by_cases h : c
  · simpa [h] using h1 h
  · simpa [h] using h2 h
theorem xyes {c A B : Prop} [Decidable c] (h : c) (k : A) : cond (decide c) A B := by simpa [h] using k
theorem xno {c A B : Prop} [Decidable c] (h : ¬ c) (k : B) : cond (decide c) A B := by simpa [h] using k
theorem xok {b : Bool} {A B : Prop} (h : b = true) (k : A) : cond b A B := by rw [h]; exact k
theorem xinI {i : Int32} {n : Nat} (k : Nat) (hi : i = nI k) (hk : k < n) (hn : n < 2 ^ 31) : xin i n = true ∧ i.toNatClampNeg = k := by
  subst hi
  have h1 := nI_clamp (n := k) (by omega)
  refine ⟨?_, h1⟩
  unfold xin
  rw [h1]
  simp [nI_pos (n := k) (by omega), hk]
/-- fewer known locals -/
def xle : List (Option Value) → List (Option Value) → Prop
  | [], [] => True
  | none :: t, _ :: u => xle t u
  | some v :: t, some w :: u => v = w ∧ xle t u
  | _, _ => False
theorem xle_ok : ∀ {t u : List (Option Value)}, xle t u → t.length = u.length ∧ ∀ (i : Nat) (v : Value), t[i]? = some (some v) → u[i]? = some (some v)
  | [], [], _ => ⟨rfl, fun i v h => h⟩
  | none :: t, o :: u, h => by
    obtain ⟨h1, h2⟩ := xle_ok (t := t) (u := u) h
    refine ⟨by simp [h1], fun i v hi => ?_⟩
    cases i with
    | zero => simp at hi
    | succ i => simpa using h2 i v (by simpa using hi)
  | some v :: t, some w :: u, h => by
    obtain ⟨h1, h2⟩ := xle_ok (t := t) (u := u) h.2
    refine ⟨by simp [h1], fun i x hi => ?_⟩
    cases i with
    | zero => rw [← h.1]; simpa using hi
    | succ i => simpa using h2 i x (by simpa using hi)
  | [], _ :: _, h => h.elim
  | _ :: _, [], h => by rename_i o _; cases o <;> exact h.elim
  | some _ :: _, none :: _, h => h.elim
theorem xR.less {l : Launch} {own : String} {cc : ByteArray} {R : Room} {ret : Option FieldType} {post : Option Value → List xE → Prop} {nL : Nat} {X : Nat → List (Option Value) → List Value → List xE → Prop} (h : xR l own cc R ret post nL X) {pc : Nat} {lv lv' : List (Option Value)} {st : List Value} {G : List xE} (hx : X pc lv' st G) (hl : xle lv' lv) : X pc lv st G := by
  obtain ⟨p, e, s, m, args, below, meth, c, Q, dC, dI, ad, kI, kJ, kQ, A, H0, cells, slots, rfl, -⟩ := h
  obtain ⟨h1, h2⟩ := xle_ok hl
  intro H locs ls hP hD hS hL
  exact hx H locs ls hP hD hS ⟨hL.1, hL.2.1, h1.trans hL.2.2.1, fun i v hv => hL.2.2.2 i v (h2 i v hv)⟩
/-- an array's contents count below its length alone -/
def xsame (e e2 : xE) : Prop := match e, e2 with
  | .inl (n, .inl f), .inl (n2, .inl f2) => n = n2 ∧ ∀ i, i < n → f i = f2 i
  | .inl (n, .inr (.inl f)), .inl (n2, .inr (.inl f2)) => n = n2 ∧ ∀ i, i < n → f i = f2 i
  | a, b => a = b
def xsames : List xE → List xE → Prop
  | [], [] => True
  | e :: t, e2 :: t2 => xsame e e2 ∧ xsames t t2
  | _, _ => False
theorem xsame_rf : ∀ e : xE, xsame e e
  | .inl (n, .inl f) => ⟨rfl, fun _ _ => rfl⟩
  | .inl (n, .inr (.inl f)) => ⟨rfl, fun _ _ => rfl⟩
  | .inl (n, .inr (.inr a)) => rfl
  | .inr q => rfl
theorem arrV_congr {cA : ClassId} {n : Nat} {f g : Nat → Value} (h : ∀ i, i < n → f i = g i) : arrV cA n f = arrV cA n g := by
  unfold arrV
  have : (fun j : Fin n => f j.val) = (fun j : Fin n => g j.val) := funext fun j => h j.val j.isLt
  rw [this]
theorem xsame_at {ad : Nat → Nat} {kI kJ kQ : ClassId} {dC : Nat → ClassId} {dI : Nat → Nat → Nat} {e e2 : xE} {a : Nat} {H : Heap} (h : xsame e e2) (hp : va_at (dC, dI) vwCl (a, xe ad kI kJ kQ e) H) : va_at (dC, dI) vwCl (a, xe ad kI kJ kQ e2) H := by
  unfold xsame at h
  split at h
  next n f n2 f2 =>
    obtain ⟨rfl, h⟩ := h
    have hp' : H[a]? = some (vp_cell kI (n, .inl f)) := hp
    show H[a]? = some (vp_cell kI (n, .inl f2))
    rw [hp', vp_cell_i, vp_cell_i]
    exact congrArg some (arrV_congr (fun i hi => by rw [h i hi]))
  next n f n2 f2 =>
    obtain ⟨rfl, h⟩ := h
    have hp' : H[a]? = some (vp_cell kJ (n, .inr (.inl f))) := hp
    show H[a]? = some (vp_cell kJ (n, .inr (.inl f2)))
    rw [hp', vp_cell_l, vp_cell_l]
    exact congrArg some (arrV_congr (fun i hi => by rw [h i hi]))
  next => rw [← h]; exact hp
theorem xsames_len : ∀ {G G2 : List xE}, xsames G G2 → G2.length = G.length
  | [], [], _ => rfl
  | e :: t, e2 :: t2, h => by simp [xsames_len h.2]
  | [], _ :: _, h => h.elim
  | _ :: _, [], h => h.elim
theorem xsames_get : ∀ {G G2 : List xE}, xsames G G2 → ∀ (k : Nat) (e2 : xE), G2[k]? = some e2 → ∃ e, G[k]? = some e ∧ xsame e e2
  | [], [], _, k, e2, h => by simp at h
  | e :: t, e' :: t2, h, 0, e2, hk => by
    simp at hk
    subst hk
    exact ⟨e, rfl, h.1⟩
  | e :: t, e' :: t2, h, k + 1, e2, hk => by
    obtain ⟨e0, h1, h2⟩ := xsames_get h.2 k e2 (by simpa using hk)
    exact ⟨e0, by simpa using h1, h2⟩
  | [], _ :: _, h, _, _, _ => h.elim
  | _ :: _, [], h, _, _, _ => h.elim
theorem xsames_P {ad : Nat → Nat} {kI kJ kQ : ClassId} {dC : Nat → ClassId} {dI : Nat → Nat → Nat} {G G2 : List xE} {H : Heap} (h : xsames G G2) (hP : va_P (dC, dI) vwCl (xw ad kI kJ kQ G) H) : va_P (dC, dI) vwCl (xw ad kI kJ kQ G2) H := by
  intro k q hq
  rw [xw_get] at hq
  obtain ⟨e2, h1, h2⟩ := Option.map_eq_some_iff.mp hq
  obtain ⟨e, h3, h4⟩ := xsames_get h k e2 h1
  rw [← h2]
  exact xsame_at h4 (hP k _ (xw_at h3))
theorem xR.alike {l : Launch} {own : String} {cc : ByteArray} {R : Room} {ret : Option FieldType} {post : Option Value → List xE → Prop} {nL : Nat} {X : Nat → List (Option Value) → List Value → List xE → Prop} (h : xR l own cc R ret post nL X) {pc : Nat} {lv : List (Option Value)} {st : List Value} {G G2 : List xE} (hx : X pc lv st G2) (hs : xsames G G2) : X pc lv st G := by
  obtain ⟨p, e, s, m, args, below, meth, c, Q, dC, dI, ad, kI, kJ, kQ, A, H0, cells, slots, rfl, -⟩ := h
  intro H locs ls hP hD hS hL
  exact hx H locs ls (xsames_P hs hP) (xw_D hD (xsames_len hs)) hS hL
/-- a weaker end; contents alike -/
theorem xM.weak {l : Launch} {y : MethodName} {cc : ByteArray} {maxL : Nat} {ret : Option FieldType} {rm : Room} {as : List Value} {G : List xE} {post post2 : Option Value → List xE → Prop} (h : xM l y cc maxL ret rm as G post) (hp : ∀ r G1, post r G1 → ∃ G2, xsames G1 G2 ∧ post2 r G2) : xM l y cc maxL ret rm as G post2 := by
  intro dC dI ad kI kJ kQ sz
  have h1 := h dC dI ad kI kJ kQ sz
  unfold Met at h1 ⊢
  intro p e ha hc hk s m args below hf h2 h3 h4
  obtain ⟨t, o, k1, k2, k3, ⟨⟨⟨r, G1, q1, q2, q3⟩, q4⟩, q5⟩⟩ := h1 p e ha hc hk s m args below hf h2 h3 h4
  obtain ⟨G2, g1, g2⟩ := hp r G1 q2
  exact ⟨t, o, k1, k2, k3, ⟨⟨⟨r, G2, q1, g2, xsames_P g1 q3⟩, q4⟩, q5⟩⟩
theorem lgc_eq {x y : Int64} : lg_cmp x y = 0 ↔ x = y := by
  unfold lg_cmp
  by_cases h : x > y
  · have : ¬ x = y := by rintro rfl; have := Int64.lt_iff_toInt_lt.mp h; omega
    simp [h, this]
  · by_cases h2 : x = y <;> simp [h, h2]
theorem lgc_lt {x y : Int64} : lg_cmp x y < 0 ↔ x < y := by
  unfold lg_cmp
  have a1 : x > y ↔ y.toInt < x.toInt := Int64.lt_iff_toInt_lt
  have a2 : x < y ↔ x.toInt < y.toInt := Int64.lt_iff_toInt_lt
  have a3 : x = y ↔ x.toInt = y.toInt := Int64.toInt_inj.symm
  by_cases h : x > y
  · have : ¬ x < y := by rw [a2]; have := a1.mp h; omega
    simp [h, this]
  · by_cases h2 : x = y
    · have : ¬ x < y := by rw [a2]; have := a3.mp h2; omega
      simp [h, h2]
    · have : x < y := by
        rw [a2]
        have h3 : ¬ y.toInt < x.toInt := fun q => h (a1.mpr q)
        have h4 : ¬ x.toInt = y.toInt := fun q => h2 (a3.mpr q)
        omega
      simp [h, h2, this]
theorem lgc_ge {x y : Int64} : 0 ≤ lg_cmp x y ↔ y ≤ x := by
  have h := @lgc_lt x y
  have a2 : x < y ↔ x.toInt < y.toInt := Int64.lt_iff_toInt_lt
  have a4 : y ≤ x ↔ y.toInt ≤ x.toInt := Int64.le_iff_toInt_le
  have b1 : lg_cmp x y < 0 ↔ (lg_cmp x y).toInt < (0 : Int32).toInt := Int32.lt_iff_toInt_lt
  have b2 : 0 ≤ lg_cmp x y ↔ (0 : Int32).toInt ≤ (lg_cmp x y).toInt := Int32.le_iff_toInt_le
  rw [b2, a4]
  rw [b1, a2] at h
  omega
theorem lgc_gt {x y : Int64} : 0 < lg_cmp x y ↔ y < x := by
  unfold lg_cmp
  by_cases h : x > y
  · have h' : y < x := h
    simp [h, h']
  · have h' : ¬ y < x := h
    by_cases h2 : x = y <;> simp [h, h2, h']
theorem lgc_le {x y : Int64} : lg_cmp x y ≤ 0 ↔ x ≤ y := by
  have h := @lgc_gt x y
  have a2 : y < x ↔ y.toInt < x.toInt := Int64.lt_iff_toInt_lt
  have a4 : x ≤ y ↔ x.toInt ≤ y.toInt := Int64.le_iff_toInt_le
  have b1 : 0 < lg_cmp x y ↔ (0 : Int32).toInt < (lg_cmp x y).toInt := Int32.lt_iff_toInt_lt
  have b2 : lg_cmp x y ≤ 0 ↔ (lg_cmp x y).toInt ≤ (0 : Int32).toInt := Int32.le_iff_toInt_le
  rw [b2, a4]
  rw [b1, a2] at h
  omega
/-! numbers: a long is written as a whole number -/
abbrev zl (z : Int) : Int64 := Int64.ofInt z
abbrev zi (z : Int) : Int32 := Int32.ofInt z
def jr (z : Int) : Prop := -9223372036854775808 < z ∧ z < 9223372036854775808
theorem zl_to {z : Int} (h : jr z) : (zl z).toInt = z := Int64.toInt_ofInt_of_le (by have := h.1; omega) (by have := h.2; omega)
theorem zl_eq {a b : Int} (ha : jr a) (hb : jr b) : zl a = zl b ↔ a = b := by
  rw [← Int64.toInt_inj, zl_to ha, zl_to hb]
theorem zl_lt {a b : Int} (ha : jr a) (hb : jr b) : zl a < zl b ↔ a < b := by
  rw [Int64.lt_iff_toInt_lt, zl_to ha, zl_to hb]
theorem zl_le {a b : Int} (ha : jr a) (hb : jr b) : zl a ≤ zl b ↔ a ≤ b := by
  rw [Int64.le_iff_toInt_le, zl_to ha, zl_to hb]
theorem zl_add (a b : Int) : zl a + zl b = zl (a + b) := (Int64.ofInt_add a b).symm
theorem zl_sub (a b : Int) : zl a - zl b = zl (a - b) := (Int64.ofInt_sub a b).symm
theorem zl_mul (a b : Int) : zl a * zl b = zl (a * b) := (Int64.ofInt_mul a b).symm
theorem zl_neg (a : Int) : - zl a = zl (-a) := Int64.neg_ofInt
theorem zl_0 : (0 : Int64) = zl 0 := rfl
theorem zl_1 : (1 : Int64) = zl 1 := rfl
theorem zl_ne_min {a : Int} (ha : jr a) : zl a ≠ Int64.minValue := by
  intro h
  have h2 := congrArg Int64.toInt h
  rw [zl_to ha] at h2
  have h3 : Int64.minValue.toInt = -9223372036854775808 := by decide
  have := ha.1
  omega
theorem zl_div {a b : Int} (ha : jr a) (hb : jr b) : zl a / zl b = zl (a.tdiv b) := by
  apply Int64.toInt_inj.mp
  rw [Int64.toInt_div_of_ne_left _ _ (zl_ne_min ha), zl_to ha, zl_to hb, zl_to]
  have h1 := Int.natAbs_tdiv_le_natAbs a b
  have := ha.1
  have := ha.2
  constructor <;> omega
theorem zl_rem {a b : Int} (ha : jr a) (hb : jr b) : zl a - zl a / zl b * zl b = zl (a.tmod b) := by
  rw [zl_div ha hb, zl_mul, zl_sub]
  congr 1
  have := Int.tmod_add_mul_tdiv a b
  rw [Int.mul_comm] at this
  omega
theorem zl_i {z : Int} (h : -2147483648 ≤ z ∧ z ≤ 2147483647) : (zi z).toInt64 = zl z := Int32.toInt64_ofInt h.1 h.2
theorem zi_l (z : Int) : (zl z).toInt32 = zi z := Int64.toInt32_ofInt
theorem zi_to {z : Int} (h : -2147483648 ≤ z ∧ z ≤ 2147483647) : (zi z).toInt = z := Int32.toInt_ofInt_of_le (by omega) (by omega)
theorem zi_nI (n : Nat) : zi (n : Int) = nI n := Int32.ofInt_eq_ofNat
theorem zl_lN (n : Nat) : zl (n : Int) = lN n := Int64.ofInt_eq_ofNat
/-! calls whose callee works in the caller's whole world -/
section XCALL0
variable {p : Program} {l : Launch} {e : Env} {R : Room} {s : State} {m : MethodId} {args : Array Value} {below : List Frame} {meth : Method} {c : Code} {Q : State → Prop} {dC : Nat → ClassId} {dI : Nat → Nat → Nat} {ad : Nat → Nat} {kI kJ kQ : ClassId} {A : Nat → Prop} {H0 : Heap} {nL cells slots : Nat} {own : String} {cc : ByteArray}
theorem xW_call0 {G : List xE} {rest : List Value} {post2 : Option Value → List xE → Prop} {pc : Nat} {lv : List (Option Value)} {st : List Value} {av : Array Value} (hA : ∀ q, H0.size ≤ q → A q) (hlen : ∀ r G1, post2 r G1 → G1.length = G.length)
    (hrun : ∀ (H : Heap) (locs : List Loc) (ls : Array Slot), va_P (dC, dI) vwCl (xw ad kI kJ kQ G) H → va_D A (xw ad kI kJ kQ G) → va_S A H0 H locs → xL ad nL lv ls → va_Run p l e R s m args below meth c H locs cells slots 0 0 (F0 m pc ls (st.map (xv ad))) (rest.map (xv ad)) (xQ dC dI ad kI kJ kQ G H.size post2 av) (va_A (xw ad kI kJ kQ G) H.size))
    (kk : ∀ r G1, post2 r G1 → xW p l e R s m args below meth c Q dC dI ad kI kJ kQ A H0 nL cells slots (pc + 3) lv (r.toList ++ rest) G1) : xW p l e R s m args below meth c Q dC dI ad kI kJ kQ A H0 nL cells slots pc lv st G := by
  intro H locs ls hP hD hS hL
  have hr := hrun H locs ls hP hD hS hL
  intro T hT X
  obtain ⟨v, st₀, t, T', L, h0, X', hL1, e1, e2, ⟨⟨r, G1, hv, hp, hP1⟩, hz, hk⟩, stp⟩ := hr T hT X
  rw [h0] at hz hk
  have hl1 := hlen r G1 hp
  have hfree : ∀ q, va_A (xw ad kI kJ kQ G) H.size q → A q := by
    rintro q (⟨j, e0, h⟩ | h)
    · exact hD.2 j (q, e0) h
    · exact hA q (Nat.le_trans hS.1 h)
  have hS' : va_S A H0 T'.heap (locs ++ L) := by
    refine ⟨Nat.le_trans hS.1 (by rw [e1]; exact hz), fun q h1 h2 => ?_, fun q hq => ?_⟩
    · rw [e1, hk q (Nat.lt_of_lt_of_le h1 hS.1) (fun z => h2 (hfree q z))]
      exact hS.2.1 q h1 h2
    · rcases List.mem_append.mp hq with h | h
      · exact hS.2.2 q h
      · exact hfree _ (hL1 q h)
  obtain ⟨t2, a1, b1⟩ := kk r G1 hp T'.heap (locs ++ L) ls (by rw [e1]; exact hP1) (xw_D hD hl1) hS' hL T' rfl X'
  refine ⟨t2, stp t2 ?_, b1⟩
  have hv2 : v = r.map (xv ad) := by cases hv; rfl
  rw [hv2]
  have hst : (r.map (xv ad)).toList ++ rest.map (xv ad) = List.map (xv ad) (r.toList ++ rest) := by
    cases r with
    | none => rfl
    | some w => simp
  rw [hst]
  exact a1
end XCALL0
section XCALLS0
variable {l : Launch} {own : String} {cc : ByteArray} {R : Room} {ret : Option FieldType} {post : Option Value → List xE → Prop} {nL : Nat} {X : Nat → List (Option Value) → List Value → List xE → Prop}
theorem xR.callV0 (h : xR l own cc R ret post nL X) {idx : Nat} {y : MethodName} {cb : ByteArray} {maxL n : Nat} {ret2 : Option FieldType} {rm : Room} {j0 : Nat} {as : List Value} {post2 : Option Value → List xE → Prop} {rest : List Value} {pc : Nat} {lv : List (Option Value)} {st : List Value} {G : List xE} {ci : Nat} {fs : List Value} {cv : vw_C}
    (hM : xM l y cb maxL ret2 rm (.ref j0 :: as) G post2) (hY : xY y cb maxL ret2 n) (hlk : Cond.methodLink own idx y ∈ xT) (hin : Cond.instanceMethod y ∈ xT) (hse : Cond.selects y.cls y y ∈ xT)
    (hR : rm.cells = 0 ∧ rm.slots = 0 ∧ rm.frames + 1 ≤ R.frames ∧ 8 + (maxL + 11) + rm.locals ≤ R.locals) (hdg : decode cc pc = .ok (.invokevirtual idx, 3)) (hn : as.length = n)
    (hst : st = (Value.ref j0 :: as).reverse ++ rest) (hrest : (rest.map fun v => v.category).sum ≤ 8)
    (hrc : xnth G j0 = some (.inr (ci, fs))) (hcv : vwCl[ci]? = some cv) (hcn : cv.1 = y.cls)
    (hlen : ∀ r G1, post2 r G1 → G1.length = G.length)
    (kk : ∀ r G1, post2 r G1 → X (pc + 3) lv (r.toList ++ rest) G1) : X pc lv st G := by
  obtain ⟨p, e, s, m, args, below, meth, c, Q, dC, dI, ad, kI, kJ, kQ, A, H0, cells, slots, rfl, ⟨hx, hb, hml, hown, hts, hKK, hN⟩, hA, ⟨hcl, hsl⟩, -⟩ := h
  obtain ⟨y1, y2, y3, y4, y5⟩ := hY
  refine xW_call0 (av := (Value.ref (ad j0) :: as.map (xv ad)).toArray) hA hlen ?_ kk
  intro H locs ls hP hD hS hL
  have hrv : (xw ad kI kJ kQ G)[j0]? = some (ad j0, .inr (ci, fs.map (xv ad))) := xw_at (by rw [← xnth_eq]; exact hrc)
  obtain ⟨cellB, g1, g2, g3⟩ := va_recv hKK hP hcv hrv
  rw [hcn] at g3
  refine va_runV (C := y.cls) (b := ad j0) (As := as.map (xv ad)) (n := n) (bytes := cb) (maxL := maxL) (ret := ret2) ⟨hx, hb, hml, hown, hts⟩ (hM dC dI ad kI kJ kQ H.size) ⟨callB_of n hts (xgood y1) rfl hR.1 hR.2.1 (hts _ y2) (hts _ hlk) ⟨y3, y4, y5⟩ hR.2.2, hts _ hin, hts _ hse⟩ ⟨xblind, ⟨cellB, g1, g2, g3⟩, fun U hU hW => ⟨rfl, by rw [hU], by rw [hU]; exact hP, va_K.moved hW.alike hKK, hD.weaken (fun _ _ _ _ => trivial), hN.warm hW⟩⟩ rfl (by simpa using hn) hL.1 ?_ ?_ hdg ⟨by omega, by omega⟩
  · show st.map (xv ad) = _
    rw [hst]
    simp [xv]
  · rw [xcat_sum]
    exact lv_room hrest
theorem xR.callS0 (h : xR l own cc R ret post nL X) {idx : Nat} {y : MethodName} {cb : ByteArray} {maxL n : Nat} {ret2 : Option FieldType} {rm : Room} {as : List Value} {post2 : Option Value → List xE → Prop} {rest : List Value} {pc : Nat} {lv : List (Option Value)} {st : List Value} {G : List xE}
    (hM : xM l y cb maxL ret2 rm as G post2) (hY : xY y cb maxL ret2 n) (hlk : Cond.methodLink own idx y ∈ xT) (hin : Cond.static y ∈ xT)
    (hR : rm.cells = 0 ∧ rm.slots = 0 ∧ rm.frames + 1 ≤ R.frames ∧ 8 + (maxL + 11) + rm.locals ≤ R.locals) (hdg : decode cc pc = .ok (.invokestatic idx, 3)) (hn : as.length = n)
    (hst : st = as.reverse ++ rest) (hrest : (rest.map fun v => v.category).sum ≤ 8)
    (hlen : ∀ r G1, post2 r G1 → G1.length = G.length)
    (kk : ∀ r G1, post2 r G1 → X (pc + 3) lv (r.toList ++ rest) G1) : X pc lv st G := by
  obtain ⟨p, e, s, m, args, below, meth, c, Q, dC, dI, ad, kI, kJ, kQ, A, H0, cells, slots, rfl, ⟨hx, hb, hml, hown, hts, hKK, hN⟩, hA, ⟨hcl, hsl⟩, -⟩ := h
  obtain ⟨y1, y2, y3, y4, y5⟩ := hY
  refine xW_call0 (av := (as.map (xv ad)).toArray) hA hlen ?_ kk
  intro H locs ls hP hD hS hL
  refine va_runS (As := as.map (xv ad)) (n := n) (bytes := cb) (maxL := maxL) (ret := ret2) ⟨hx, hb, hml, hown, hts⟩ (hM dC dI ad kI kJ kQ H.size) ⟨callB_of n hts (xgood y1) rfl hR.1 hR.2.1 (hts _ y2) (hts _ hlk) ⟨y3, y4, y5⟩ hR.2.2, hts _ hin⟩ ⟨xblind, fun U hU hW => ⟨rfl, by rw [hU], by rw [hU]; exact hP, va_K.moved hW.alike hKK, hD.weaken (fun _ _ _ _ => trivial), hN.warm hW⟩⟩ rfl (by simpa using hn) hL.1 ?_ ?_ hdg ⟨by omega, by omega⟩
  · show st.map (xv ad) = _
    rw [hst]
    simp
  · rw [xcat_sum]
    exact lv_room hrest
end XCALLS0
/-- what lies below a call's arguments isn't too much -/
def xrs : List Value → Nat → Bool
  | [], _ => true
  | v :: t, b => (match Nat.ble v.category b with | true => xrs t (b - v.category) | false => false)
theorem xrs_ok : ∀ {r : List Value} {b : Nat}, xrs r b = true → (r.map fun v => v.category).sum ≤ b
  | [], b, _ => by simp
  | v :: t, b, h => by
    unfold xrs at h
    cases hb : Nat.ble v.category b with
    | true =>
      rw [hb] at h
      have h1 := Nat.le_of_ble_eq_true hb
      have h2 := xrs_ok h
      simp only [List.map_cons, List.sum_cons]
      omega
    | false => rw [hb] at h; cases h
/-- the instruction at a place of a method -/
theorem xsf.at {cc : ByteArray} {code : List xI} (h : xsf cc code) (pc : Nat) {ins : Instr} {len : Nat} {cs : List xI} (hj : xjmp code (pc : Int) = (pc, ins, len) :: cs) : decode cc pc = .ok (ins, len) := by
  have h1 := (xsf.jmp (t := (pc : Int)) code h).1
  rw [hj] at h1
  exact h1.dec
