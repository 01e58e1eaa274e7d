/-! constructors: contracts, contexts, calls -/
def xQI (dC : Nat → ClassId) (dI : Nat → Nat → Nat) (ad : Nat → Nat) (kI kJ kQ : ClassId) (G0 : List xE) (sz : Nat) (P : List xE → Prop) : Array Value → State → Outcome → State → Prop := fun _ st oc t =>
  (∃ (ad' : Nat → Nat) (G1 : List xE), P G1 ∧ (∀ k, k < G0.length → ad' k = ad k) ∧ oc = .returned none ∧ va_P (dC, dI) vwCl (xw ad' kI kJ kQ G1) t.heap ∧ va_D (va_A (xw ad kI kJ kQ G0) sz) (xw ad' kI kJ kQ G1)) ∧ va_F (va_A (xw ad kI kJ kQ G0) sz) st t
def xCtr (l : Launch) (y : MethodName) (cc : ByteArray) (maxL : Nat) (rm : Room) (as : List Value) (G0 : List xE) (P : List xE → Prop) (mc ms : Nat) : Prop :=
  ∀ (dC : Nat → ClassId) (dI : Nat → Nat → Nat) (ad : Nat → Nat) (kI kJ kQ : ClassId) (sz : Nat), Met l y (Cond.code y cc maxL none :: xT) rm
    (va_Pc (as.map (xv ad)) (fun U => U.heap.size = sz ∧ va_P (dC, dI) vwCl (xw ad kI kJ kQ G0) U.heap ∧ va_K (dC, dI) vwCl (xty kI kJ kQ) U ∧ va_D (fun _ => True) (xw ad kI kJ kQ G0) ∧ xN U ∧ xAO U))
    (xQI dC dI ad kI kJ kQ G0 sz P) mc ms (va_A (xw ad kI kJ kQ G0) sz)
theorem xblindI {av : List Value} {dC : Nat → ClassId} {dI : Nat → Nat → Nat} {ad : Nat → Nat} {kI kJ kQ : ClassId} {sz : Nat} {G : List xE} : FrameBlind (va_Pc av (fun U => U.heap.size = sz ∧ va_P (dC, dI) vwCl (xw ad kI kJ kQ G) U.heap ∧ va_K (dC, dI) vwCl (xty kI kJ kQ) U ∧ va_D (fun _ => True) (xw ad kI kJ kQ G) ∧ xN U ∧ xAO U)) := by
  intro a U g mk q
  obtain ⟨q0, q1, qP, qK, qD, qN, qA⟩ := q
  have h := xblind (av := av) (dC := dC) (dI := dI) (ad := ad) (kI := kI) (kJ := kJ) (kQ := kQ) (sz := sz) (G := G) a U g mk ⟨q0, q1, qP, qK, qD, qN⟩
  obtain ⟨p0, p1, pP, pK, pD, pN⟩ := h
  exact ⟨p0, p1, pP, pK, pD, pN, xAO.moved (u := U) (U := U.calling g mk a) (Vm.Alike.refl U.vm) qA⟩
abbrev xYt : Type := Nat → Nat → (Nat → Nat) → Nat → List (Option Value) → List Value → List xE → Prop
/-- a walk that may make things -/
def xB (l : Launch) (own : String) (cc : ByteArray) (R : Room) (nL : Nat) (nm : Bool) (Y : xYt) : Prop :=
  ∃ (p : Program) (e : Env) (s : State) (m : MethodId) (args : Array Value) (below : List Frame) (meth : Method) (c : Code) (Q : State → Prop) (dC : Nat → ClassId) (dI : Nat → Nat → Nat) (kI kJ kQ : ClassId) (A : Nat → Prop) (H0 : Heap),
    Y = (fun cells slots ad => xW p l e R s m args below meth c Q dC dI ad kI kJ kQ A H0 nL cells slots) ∧ xS p s m args c dC dI kI kJ kQ own cc nL ∧ (∀ q, H0.size ≤ q → A q) ∧ xAO s ∧ (nm = true → meth.name = "<init>")
section XCTX
variable {l : Launch} {own : String} {cc : ByteArray} {R : Room} {nL : Nat} {nm : Bool} {Y : xYt} {cells slots : Nat} {ad : Nat → Nat}
theorem xB.toR (h : xB l own cc R nL nm Y) (hc : cells ≤ R.cells) (hs : slots ≤ R.slots) : xR l own cc R none (fun _ _ => False) nL (Y cells slots ad) := by
  obtain ⟨p, e, s, m, args, below, meth, c, Q, dC, dI, kI, kJ, kQ, A, H0, rfl, hS, hA, -, -⟩ := h
  exact ⟨p, e, s, m, args, below, meth, c, Q, dC, dI, ad, kI, kJ, kQ, A, H0, cells, slots, rfl, hS, hA, ⟨hc, hs⟩, fun _ _ _ _ _ _ h => h.elim, fun _ _ _ _ _ _ h => h.elim, fun _ _ _ _ _ h => h.elim⟩
theorem xB.new (h : xB l own cc R nL nm Y) {C : String} {T : u_T} {N ci index pc : Nat} {ty : Nat → FieldType} (hin : ∀ w ∈ u_ws C T N, w ∈ xT) (hty : ∀ k, k < N → parseFieldDescriptor (T k).2.2.1 = some (ty k)) (hcl : Cond.classLink own index C ∈ xT) (hinst : Cond.instantiable C N ∈ xT) (hini : Cond.initialized C ∈ xT) (hc : vwCl[ci]? = some (C, T, N)) {fs : List Value} (hfs : ∀ j, j < N → defaultValue (ty j) = vp_V fs j) (hfr : xnvsB fs = true) (hcells : cells + 1 ≤ R.cells) (hslots : slots + N ≤ R.slots) (hdg : decode cc pc = .ok (.new index, 3))
    {lv : List (Option Value)} {st : List Value} {G : List xE} (hlim : G.length + 1 ≤ 1000) (hw : xgw G.length G) (hlv : xlvB G.length lv = true) (hst : xvsB G.length st = true)
    (kk : ∀ h, Y (cells + 1) (slots + N) (xext ad G.length h) (pc + 3) lv (.ref G.length :: st) (G ++ [.inr (ci, fs)])) : Y cells slots ad pc lv st G := by
  obtain ⟨p, e, s, m, args, below, meth, c, Q, dC, dI, kI, kJ, kQ, A, H0, rfl, hS, hA, -, -⟩ := h
  exact xW_new hS hA hin hty hcl hinst hini hc hfs hfr hcells hslots hdg hlim hw hlv hst kk
theorem xB.newI (h : xB l own cc R nL nm Y) {pc : Nat} (N : Nat) {n : Int32} (harr : Cond.arrayClass .int ∈ xT) (hn : ¬ n < 0) (hN : n.toNatClampNeg = N) (hN2 : N ≤ 1000) (hcells : cells + 1 ≤ R.cells) (hslots : slots + N ≤ R.slots) (hdg : decode cc pc = .ok (.newarray .int, 2))
    {lv : List (Option Value)} {st : List Value} {G : List xE} (hlim : G.length + 1 ≤ 1000) (hw : xgw G.length G) (hlv : xlvB G.length lv = true) (hst : xvsB G.length st = true)
    (kk : ∀ h, Y (cells + 1) (slots + N) (xext ad G.length h) (pc + 2) lv (.ref G.length :: st) (G ++ [.inl (N, .inl (fun _ => 0))])) : Y cells slots ad pc lv (.int n :: st) G := by
  obtain ⟨p, e, s, m, args, below, meth, c, Q, dC, dI, kI, kJ, kQ, A, H0, rfl, hS, hA, -, -⟩ := h
  exact xW_newa (atype := .int) (a0 := (N, .inl (fun _ => 0))) (cK := kI) hS hA harr (hS.2.2.2.2.2.1.2 0 _ rfl).2 (fun _ => rfl) (fun cA => by rw [vp_cell_i]; rfl) hn hN (by show N * 4 ≤ _; omega) hcells hslots hdg hlim hw hlv hst kk
theorem xB.newJ (h : xB l own cc R nL nm Y) {pc : Nat} (N : Nat) {n : Int32} (harr : Cond.arrayClass .long ∈ xT) (hn : ¬ n < 0) (hN : n.toNatClampNeg = N) (hN2 : N ≤ 1000) (hcells : cells + 1 ≤ R.cells) (hslots : slots + N ≤ R.slots) (hdg : decode cc pc = .ok (.newarray .long, 2))
    {lv : List (Option Value)} {st : List Value} {G : List xE} (hlim : G.length + 1 ≤ 1000) (hw : xgw G.length G) (hlv : xlvB G.length lv = true) (hst : xvsB G.length st = true)
    (kk : ∀ h, Y (cells + 1) (slots + N) (xext ad G.length h) (pc + 2) lv (.ref G.length :: st) (G ++ [.inl (N, .inr (.inl (fun _ => 0)))])) : Y cells slots ad pc lv (.int n :: st) G := by
  obtain ⟨p, e, s, m, args, below, meth, c, Q, dC, dI, kI, kJ, kQ, A, H0, rfl, hS, hA, -, -⟩ := h
  exact xW_newa (atype := .long) (a0 := (N, .inr (.inl (fun _ => 0)))) (cK := kJ) hS hA harr (hS.2.2.2.2.2.1.2 1 _ rfl).2 (fun _ => rfl) (fun cA => by rw [vp_cell_l]; rfl) hn hN (by show N * 8 ≤ _; omega) hcells hslots hdg hlim hw hlv hst kk
theorem xB.mna (h : xB l own cc R nL nm Y) {index pc : Nat} (N K : Nat) {n k : Int32} (L : List Nat) (hcl : Cond.classLink own index ("[" ++ (FieldType.array .long).toString) ∈ xT) (harr : Cond.arrayClass .long ∈ xT) (hn : ¬ n < 0) (hk : ¬ k < 0) (hN : n.toNatClampNeg = N) (hK : k.toNatClampNeg = K) (hN2 : N ≤ 1000) (hK2 : K ≤ 1000) (hcells : cells + (1 + N) ≤ R.cells) (hslots : slots + (N + N * K) ≤ R.slots) (hdg : decode cc pc = .ok (.multianewarray index 2, 4))
    {lv : List (Option Value)} {st : List Value} {G : List xE} (hL9 : L = (List.range N).map (fun i => G.length + 1 + i)) (hlim : G.length + (N + 1) ≤ 1000) (hw : xgw G.length G) (hlv : xlvB G.length lv = true) (hst : xvsB G.length st = true)
    (kk : ∀ h, Y (cells + 1 + N) (slots + N + N * K) (xext ad G.length h) (pc + 4) lv (.ref G.length :: st) (G ++ (.inl (N, .inr (.inr (.inr (.inr (xnth L))))) :: List.replicate N (.inl (K, .inr (.inl (fun _ => 0))))))) : Y cells slots ad pc lv (.int k :: .int n :: st) G := by
  obtain ⟨p, e, s, m, args, below, meth, c, Q, dC, dI, kI, kJ, kQ, A, H0, rfl, hS, hA, hAO, -⟩ := h
  exact xW_mna hS hA hAO hcl harr hn hk hN hK (by omega) (by show K * 8 ≤ _; omega) (by omega) hcells hslots hdg hL9 hlim hw hlv hst kk
theorem xB.putF (h : xB l own cc R nL true Y) {C : String} {T : u_T} {N ci index pc j k : Nat} {ty0 : Nat → FieldType} (hin : ∀ w ∈ u_ws C T N, w ∈ xT) (hty : ∀ k, k < N → parseFieldDescriptor (T k).2.2.1 = some (ty0 k)) (hnm : ∀ a, a < N → ∀ b, b < N → a ≠ b → (T a).2.1 ≠ (T b).2.1) (hc : vwCl[ci]? = some (C, T, N)) (hk : k < N) (hlink : Cond.fieldLink own index C (T k).2.1 (T k).2.2.1 ∈ xT) (hfin : (T k).2.2.2 = true) (hdecl : (T k).1 = own) (hC : C = own) {v : Value} (hn : ∀ ad, narrow (ty0 k) (xv ad v) = xv ad v) (hfit : ∀ ad, fits (ty0 k) (xv ad v) = true) {fs : List Value} (hl : k < fs.length) (hdg : decode cc pc = .ok (.putfield index, 3))
    {lv : List (Option Value)} {st : List Value} {G : List xE} (he : xnth G j = some (.inr (ci, fs)))
    (kk : xset (.inr (ci, fs.set k v)) G j (fun G' => Y cells slots ad (pc + 3) lv st G')) : Y cells slots ad pc lv (v :: .ref j :: st) G := by
  obtain ⟨p, e, s, m, args, below, meth, c, Q, dC, dI, kI, kJ, kQ, A, H0, rfl, hS, hA, hAO, hnm9⟩ := h
  exact xW_putF hS (hnm9 rfl) hin hty hnm hc hk hlink hfin hdecl hC hn hfit hl hdg he kk
theorem xB.obj (h : xB l own cc R nL nm Y) {idx pc j : Nat} (hlk : Cond.methodLink own idx Lib.objectInit ∈ xT) (hin : Cond.instanceMethod Lib.objectInit ∈ xT) (hcode : Cond.code Lib.objectInit ⟨#[0xb1]⟩ 1 none ∈ xT) (hdg : decode cc pc = .ok (.invokespecial idx, 3)) (hfr : 1 ≤ R.frames)
    {lv : List (Option Value)} {st : List Value} {G : List xE} (hlo : (st.map fun v => v.category).sum + 12 ≤ R.locals) (kk : Y cells slots ad (pc + 3) lv st G) : Y cells slots ad pc lv (.ref j :: st) G := by
  obtain ⟨p, e, s, m, args, below, meth, c, Q, dC, dI, kI, kJ, kQ, A, H0, rfl, hS, hA, hAO, -⟩ := h
  exact xW_obj hS hlk hin hcode hdg hfr hlo kk
theorem xB.callI (h : xB l own cc R nL nm Y) {idx pc : Nat} {y : MethodName} {cb : ByteArray} {maxL n : Nat} {rm : Room} {as : List Value} {ci : Nat} {fs : List Value} {P : List xE → Prop} {mc ms : Nat}
    (hM : xCtr l y cb maxL rm (.ref 0 :: as) [.inr (ci, fs)] P mc ms) (hY : xY y cb maxL none n) (hlk : Cond.methodLink own idx y ∈ xT ∨ ∃ host, Cond.methodLinkNest own idx y host ∈ tables_1) (hin : Cond.instanceMethod y ∈ xT) (hyn : y.name = "<init>")
    (hR : rm.cells = mc ∧ rm.slots = ms ∧ rm.frames + 1 ≤ R.frames ∧ 8 + (maxL + 11) + rm.locals ≤ R.locals) (hdg : decode cc pc = .ok (.invokespecial idx, 3)) (hn : as.length = n) (has : xnvsB as = true) (hfs : xnvsB fs = true) (hGw : ∀ G1, P G1 → xgw 900 G1 ∧ G1.length ≤ 900)
    {lv : List (Option Value)} {rest : List Value} {G : List xE} (hrest : (rest.map fun v => v.category).sum ≤ 8) (hlim : G.length ≤ 99) (hw : xgw G.length G) (hlv : xlvB (G.length + 1) lv = true) (hst : xvsB (G.length + 1) rest = true) (hcells : cells + mc ≤ R.cells ∧ slots + ms ≤ R.slots)
    (kk : ∀ ad' G1, P G1 → (∀ k, k < G.length + 1 ∨ 1000 ≤ k → ad' k = ad k) → Y (cells + mc) (slots + ms) ad' (pc + 3) lv rest (G ++ G1.map (xren (fun j => G.length + j)))) : Y cells slots ad pc lv (as.reverse ++ .ref G.length :: rest) (G ++ [.inr (ci, fs)]) := by
  obtain ⟨p, e, s, m, args, below, meth, c, Q, dC, dI, kI, kJ, kQ, A, H0, rfl, ⟨hx, hb, hml, hown, hts, hKK, hN⟩, hA, hAO, -⟩ := h
  obtain ⟨y1, y2, y3, y4, y5⟩ := hY
  intro H locs ls hP hD hS hL
  have e1 : xw ad kI kJ kQ (G ++ [.inr (ci, fs)]) = xw ad kI kJ kQ G ++ [(ad G.length, .inr (ci, fs))] := by
    rw [xw_app]
    show _ ++ [(ad (G.length + 0), Sum.inr (ci, fs.map (xv ad)))] = _
    rw [xvs_no hfs, Nat.add_zero]
  have ec : xw (fun j => ad (G.length + j)) kI kJ kQ [.inr (ci, fs)] = [(ad G.length, .inr (ci, fs))] := by
    show [(ad (G.length + 0), Sum.inr (ci, fs.map (xv _)))] = _
    rw [xvs_no hfs, Nat.add_zero]
  rw [e1] at hP hD
  have hPc : va_P (dC, dI) vwCl [(ad G.length, .inr (ci, fs))] H := fun k q hq => by
    have hk : k = 0 := by
      have := (List.getElem?_eq_some_iff.mp hq).1
      simp at this
      exact this
    subst hk
    exact hP (G.length + 0) q (by
      rw [List.getElem?_append_right (by rw [xw_len]; omega), xw_len]
      simpa using hq)
  have hDc : va_D (fun _ => True) ([(ad G.length, .inr (ci, fs))] : va_W) := ⟨fun i j a b hi hj _ => by
    have h1 := (List.getElem?_eq_some_iff.mp hi).1
    have h2 := (List.getElem?_eq_some_iff.mp hj).1
    simp at h1 h2
    omega, fun _ _ _ => trivial⟩
  have hM2 := hM dC dI (fun j => ad (G.length + j)) kI kJ kQ H.size
  rw [ec] at hM2
  have hrun : va_Run p l e R s m args below meth c H locs cells slots mc ms (F0 m pc ls ((as.reverse ++ .ref G.length :: rest).map (xv ad))) (rest.map (xv ad)) (xQI dC dI (fun j => ad (G.length + j)) kI kJ kQ [.inr (ci, fs)] H.size P (Value.ref (ad G.length) :: as).toArray) (va_A [(ad G.length, .inr (ci, fs))] H.size) := by
    rcases hlk with hlk | ⟨host, hlk⟩
    · refine va_runI (b := ad G.length) (As := as) (n := n) (bytes := cb) (maxL := maxL) ⟨hx, hb, hml, hown, hts⟩ hM2 ⟨callB_of n hts (xgood y1) rfl hR.1 hR.2.1 (hts _ y2) (hts _ hlk) ⟨y3, y4, y5⟩ hR.2.2, hyn, hts _ hin⟩ ⟨?_, fun U hU hW => ⟨?_, by rw [hU], by rw [hU]; exact hPc, va_K.moved hW.alike hKK, hDc, hN.warm hW, hAO.moved hW.alike⟩⟩ rfl hn hL.1 ?_ ?_ hdg hcells
      · have := xblindI (av := (Value.ref 0 :: as).map (xv (fun j => ad (G.length + j)))) (dC := dC) (dI := dI) (ad := fun j => ad (G.length + j)) (kI := kI) (kJ := kJ) (kQ := kQ) (sz := H.size) (G := [.inr (ci, fs)])
        rw [ec] at this
        exact this
      · show _ = ((Value.ref 0 :: as).map (xv (fun j => ad (G.length + j)))).toArray
        rw [List.map_cons, xvs_no has]
        rfl
      · show (as.reverse ++ .ref G.length :: rest).map (xv ad) = _
        rw [List.map_append, List.map_reverse, xvs_no has]
        rfl
      · rw [xcat_sum]
        exact lv_room hrest
    · refine va_runIN (host := host) (b := ad G.length) (As := as) (n := n) (bytes := cb) (maxL := maxL) ⟨hx, hb, hml, hown, hts⟩ hM2 ⟨va_cnB n hts (xgood y1) rfl hR.1 hR.2.1 (hN _ hlk rfl) (hts _ y2) ⟨y3, y4, y5⟩ hR.2.2, hyn, hts _ hin⟩ ⟨?_, fun U hU hW => ⟨?_, by rw [hU], by rw [hU]; exact hPc, va_K.moved hW.alike hKK, hDc, hN.warm hW, hAO.moved hW.alike⟩⟩ rfl hn hL.1 ?_ ?_ hdg hcells
      · have := xblindI (av := (Value.ref 0 :: as).map (xv (fun j => ad (G.length + j)))) (dC := dC) (dI := dI) (ad := fun j => ad (G.length + j)) (kI := kI) (kJ := kJ) (kQ := kQ) (sz := H.size) (G := [.inr (ci, fs)])
        rw [ec] at this
        exact this
      · show _ = ((Value.ref 0 :: as).map (xv (fun j => ad (G.length + j)))).toArray
        rw [List.map_cons, xvs_no has]
        rfl
      · show (as.reverse ++ .ref G.length :: rest).map (xv ad) = _
        rw [List.map_append, List.map_reverse, xvs_no has]
        rfl
      · rw [xcat_sum]
        exact lv_room hrest
  intro T hT X
  obtain ⟨v, st₀, t, T', L, h0, X', hL1, q1, q2, ⟨⟨ad1, G1, hPG, a1, hv, hP1, hD1⟩, hz, hk⟩, stp⟩ := hrun T hT X
  rw [ec] at hk hD1
  rw [h0] at hz hk
  cases hv
  have hfree : ∀ q, va_A [(ad G.length, .inr (ci, fs))] H.size q → A q := by
    rintro q (⟨j, e0, h⟩ | h)
    · have hj : j = 0 := by
        have := (List.getElem?_eq_some_iff.mp h).1
        simp at this
        exact this
      subst hj
      have h5 : (ad G.length, (Sum.inr (ci, fs) : va_E)) = (q, e0) := by simpa using h
      have h6 := hD.2 (G.length + 0) (q, e0) (by
        rw [List.getElem?_append_right (by rw [xw_len]; omega), xw_len]
        simpa using h)
      exact h6
    · exact hA q (Nat.le_trans hS.1 h)
  have hS' : va_S A H0 T'.heap (locs ++ L) := by
    refine ⟨Nat.le_trans hS.1 (by rw [q1]; exact hz), fun q h1 h2 => ?_, fun q hq => ?_⟩
    · rw [q1, hk q (Nat.lt_of_lt_of_le h1 hS.1) (fun z => h2 (hfree q z))]
      exact hS.2.1 q h1 h2
    · rcases List.mem_append.mp hq with h | h
      · exact hS.2.2 q h
      · exact hfree _ (hL1 q h)
  have had1 : ad1 0 = ad G.length := a1 0 (by simp)
  obtain ⟨gw, gl⟩ := hGw G1 hPG
  obtain ⟨ad', hA1, hA2⟩ : ∃ ad' : Nat → Nat, (∀ k, k < G.length ∨ 1000 ≤ k → ad' k = ad k) ∧ (∀ j, j < 900 → ad' (G.length + j) = ad1 j) := ⟨fun k => if k < G.length then ad k else if k < 1000 then ad1 (k - G.length) else ad k, fun k hk => by
    show (if k < G.length then _ else _) = _
    by_cases h1 : k < G.length
    · rw [if_pos h1]
    · rw [if_neg h1, if_neg (by omega)], fun j hj => by
    show (if G.length + j < G.length then _ else _) = _
    rw [if_neg (by omega), if_pos (by omega), Nat.add_sub_cancel_left]⟩
  have hagr : ∀ k, k < G.length + 1 ∨ 1000 ≤ k → ad' k = ad k := fun k hk => by
    by_cases h : k < G.length ∨ 1000 ≤ k
    · exact hA1 k h
    · have h9 : k = G.length + 0 := by omega
      rw [h9, hA2 0 (by omega), had1, Nat.add_zero]
  have ew : xw ad' kI kJ kQ (G ++ G1.map (xren (fun j => G.length + j))) = xw ad kI kJ kQ G ++ xw ad1 kI kJ kQ G1 := by
    rw [xw_app, xw_same hw (Nat.le_refl _) hA1]
    congr 1
    apply List.ext_getElem?
    intro j
    rw [List.getElem?_mapIdx, List.getElem?_map, xw_get]
    cases hj : G1[j]? with
    | none => rfl
    | some e9 =>
      have hjl := (List.getElem?_eq_some_iff.mp hj).1
      show some (ad' (G.length + j), xe ad' kI kJ kQ (xren (fun j => G.length + j) e9)) = some (ad1 j, xe ad1 kI kJ kQ e9)
      rw [← xe_comp, hA2 j (by omega)]
      rw [xgw_at gw hj ad1 (fun j => ad' (G.length + j)) kI kJ kQ (fun k hk => hA2 k hk)]
  have hold : ∀ (k : Nat) (q : Nat × va_E), (xw ad kI kJ kQ G)[k]? = some q → (q.1 < H.size ∧ ¬ va_A [(ad G.length, .inr (ci, fs))] H.size q.1) := by
    intro k q hq
    have hkl : k < G.length := by
      have := (List.getElem?_eq_some_iff.mp hq).1
      rw [xw_len] at this
      exact this
    have hq2 : (xw ad kI kJ kQ G ++ [(ad G.length, .inr (ci, fs))])[k]? = some q := by rw [List.getElem?_append_left (by rw [xw_len]; exact hkl)]; exact hq
    have hlt := (hP k q hq2).lt
    refine ⟨hlt, ?_⟩
    rintro (⟨j, e0, h⟩ | h)
    · have hj : j = 0 := by
        have := (List.getElem?_eq_some_iff.mp h).1
        simp at this
        exact this
      subst hj
      have h5 := hD.1 k (G.length + 0) q (q.1, e0) hq2 (by
        rw [List.getElem?_append_right (by rw [xw_len]; omega), xw_len]
        simpa using h) rfl
      omega
    · omega
  have hP0 : va_P (dC, dI) vwCl (xw ad kI kJ kQ G) H := fun k q hq => hP k q (by
    have hkl : k < G.length := by
      have := (List.getElem?_eq_some_iff.mp hq).1
      rw [xw_len] at this
      exact this
    rw [List.getElem?_append_left (by rw [xw_len]; exact hkl)]; exact hq)
  have hD0 : va_D A (xw ad kI kJ kQ G) := ⟨fun i j a b hi hj hab => hD.1 i j a b (by
      have := (List.getElem?_eq_some_iff.mp hi).1
      rw [List.getElem?_append_left this]; exact hi) (by
      have := (List.getElem?_eq_some_iff.mp hj).1
      rw [List.getElem?_append_left this]; exact hj) hab, fun k q hq => hD.2 k q (by
      have := (List.getElem?_eq_some_iff.mp hq).1
      rw [List.getElem?_append_left this]; exact hq)⟩
  have hPn : va_P (dC, dI) vwCl (xw ad' kI kJ kQ (G ++ G1.map (xren (fun j => G.length + j)))) T'.heap := by
    rw [ew, q1]
    refine (hP0.kept (fun k q hq => ?_)).app hP1
    obtain ⟨h1, h2⟩ := hold k q hq
    exact hk q.1 h1 h2
  have hDn : va_D A (xw ad' kI kJ kQ (G ++ G1.map (xren (fun j => G.length + j)))) := by
    rw [ew]
    refine hD0.app ⟨hD1.1, fun k q hq => hfree _ (hD1.2 k q hq)⟩ (fun i j a b hi hj hab => ?_)
    obtain ⟨h1, h2⟩ := hold i a hi
    exact h2 (by rw [hab]; exact hD1.2 j b hj)
  have hLn : xL ad' nL lv ls := ⟨hL.1, hL.2.1, hL.2.2.1, fun i v hv => by rw [xlvB_ok hagr hlv i v hv]; exact hL.2.2.2 i v hv⟩
  obtain ⟨t2, b1, b2⟩ := kk ad' G1 hPG hagr T'.heap (locs ++ L) ls hPn hDn hS' hLn T' rfl X'
  refine ⟨t2, stp t2 ?_, b2⟩
  rw [xvsB_ok hagr hst] at b1
  exact b1
end XCTX
theorem xCtr.of {l : Launch} {y : MethodName} {cc : ByteArray} {maxL : Nat} {rm : Room} {as : List Value} {G0 : List xE} {P : List xE → Prop} {mc ms : Nat} (hy : plainName y.cls = true) (hyn : y.name = "<init>") (hfit : (lg_sl as).length ≤ maxL)
    (body : ∀ (ad0 : Nat → Nat) (Y : xYt), xB l y.cls cc rm maxL true Y → (∀ pc lv ad G1, decode cc pc = .ok (.return_, 1) → (∀ k, k < G0.length → ad k = ad0 k) → P G1 → Y mc ms ad pc lv [] G1) → Y 0 0 ad0 0 (xlv as maxL) [] G0) : xCtr l y cc maxL rm as G0 P mc ms := by
  intro dC dI ad kI kJ kQ sz
  refine Met.ofW (cc := cc) (maxL := maxL) (ret := none) hy rfl ?_
  intro p e s m args below meth c s₁ B hml hv
  obtain ⟨rfl, hsz, hP, hK, hD0, hN, hAO⟩ := hv
  have hx := B.exec
  have hb := B.bytes
  have hr := B.returns
  have hts0 := atoms_spec (ws := Cond.code y cc maxL none :: xT) B.pre
  have hown : s.vm.findClass y.cls = some m.cls := findClass_of_methodNamed B.named
  have hin : meth.name = "<init>" := by rw [(name_of_methodNamed B.named B.method).1]; exact hyn
  have hlocks := B.notSynchronized
  subst hsz
  have hD := hD0.self (sz := s.heap.size)
  have hA : ∀ q : Nat, s.heap.size ≤ q → va_A (xw ad kI kJ kQ G0) s.heap.size q := fun q h => Or.inr h
  have hS : va_S (va_A (xw ad kI kJ kQ G0) s.heap.size) s.heap s.heap [] := va_S.rf
  have hl := lv_entry (as.map (xv ad)) (n := maxL) (by rw [xsl_len]; exact hfit)
  rw [lg_entry_eq]
  generalize (lg_sl (as.map (xv ad)) ++ List.replicate (maxL - (lg_sl (as.map (xv ad))).length) Slot.unset).toArray = ls at hl ⊢
  have hL : xL ad maxL (xlv as maxL) ls := ⟨hl.1, hl.2.1, xlv_len as maxL hfit, fun i v hv => hl.2.2 (i, xv ad v) (by have := xlv_mem ad as maxL 0 i v hv; simpa using this)⟩
  have key := body ad (fun cells slots ad9 => xW p l e rm s m (as.map (xv ad)).toArray below meth c (MQ below (xQI dC dI ad kI kJ kQ G0 s.heap.size P) (as.map (xv ad)).toArray s mc ms (va_A (xw ad kI kJ kQ G0) s.heap.size)) dC dI ad9 kI kJ kQ (va_A (xw ad kI kJ kQ G0) s.heap.size) s.heap maxL cells slots) ⟨p, e, s, m, _, below, meth, c, _, dC, dI, kI, kJ, kQ, _, s.heap, rfl, ⟨hx, hb, hml, hown, fun w hw => hts0 w (List.mem_cons_of_mem _ hw), hK, hN⟩, hA, hAO, fun _ => hin⟩ ?_
  · exact key s.heap [] ls hP hD hS hL
  · intro pc lv ad9 G1 hdg hag hPG H locs ls2 hP2 hD2 hS2 hL2
    exact W.vret hx hb hr (fun t ht hW => ⟨⟨ad9, G1, hPG, hag, rfl, by rw [ht]; exact hP2, hD2⟩, hS2.F ht⟩) hS2.2.2 hdg hlocks
