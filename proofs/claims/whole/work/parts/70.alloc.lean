/-! making objects and arrays: the world grows at its end -/
def xvB (n : Nat) (v : Value) : Bool := match v with
  | .ref k => Nat.blt k n || Nat.ble 1000 k
  | _ => true
def xcvB (n : Nat) (v : Value) : Bool := match v with
  | .ref k => Nat.blt k n
  | _ => true
def xcvsB (n : Nat) : List Value → Bool
  | [] => true
  | v :: t => xcvB n v && xcvsB n t
def xnvB (v : Value) : Bool := match v with
  | .ref _ => false
  | _ => true
def xnvsB : List Value → Bool
  | [] => true
  | v :: t => xnvB v && xnvsB t
def xvsB (n : Nat) : List Value → Bool
  | [] => true
  | v :: t => xvB n v && xvsB n t
def xlvB (n : Nat) : List (Option Value) → Bool
  | [] => true
  | some v :: t => xvB n v && xlvB n t
  | none :: t => xlvB n t
def xeW (n : Nat) (e : xE) : Prop := ∀ (ad ad' : Nat → Nat) (kI kJ kQ : ClassId), (∀ k, k < n → ad' k = ad k) → xe ad' kI kJ kQ e = xe ad kI kJ kQ e
def xgw (n : Nat) : List xE → Prop
  | [] => True
  | e :: t => xeW n e ∧ xgw n t
theorem xvB_ok {n : Nat} {ad ad' : Nat → Nat} (ha : ∀ k, k < n ∨ 1000 ≤ k → ad' k = ad k) {v : Value} (h : xvB n v = true) : xv ad' v = xv ad v := by
  cases v with
  | ref k =>
    have h1 : k < n ∨ 1000 ≤ k := by simpa [xvB] using h
    exact congrArg Value.ref (ha k h1)
  | _ => rfl
theorem xvsB_ok {n : Nat} {ad ad' : Nat → Nat} (ha : ∀ k, k < n ∨ 1000 ≤ k → ad' k = ad k) : ∀ {st : List Value}, xvsB n st = true → st.map (xv ad') = st.map (xv ad)
  | [], _ => rfl
  | v :: t, h => by
    have h1 : xvB n v = true ∧ xvsB n t = true := by simpa [xvsB] using h
    rw [List.map_cons, List.map_cons, xvB_ok ha h1.1, xvsB_ok ha h1.2]
theorem xlvB_ok {n : Nat} {ad ad' : Nat → Nat} (ha : ∀ k, k < n ∨ 1000 ≤ k → ad' k = ad k) : ∀ {lv : List (Option Value)}, xlvB n lv = true → ∀ (i : Nat) (v : Value), lv[i]? = some (some v) → xv ad' v = xv ad v
  | [], _, i, v, hv => by simp at hv
  | none :: t, h, 0, v, hv => by simp at hv
  | none :: t, h, i + 1, v, hv => xlvB_ok ha (lv := t) h i v (by simpa using hv)
  | some w :: t, h, 0, v, hv => by
    have h1 : xvB n w = true ∧ xlvB n t = true := by simpa [xlvB] using h
    have : w = v := by simpa using hv
    rw [← this]
    exact xvB_ok ha h1.1
  | some w :: t, h, i + 1, v, hv => by
    have h1 : xvB n w = true ∧ xlvB n t = true := by simpa [xlvB] using h
    exact xlvB_ok ha (lv := t) h1.2 i v (by simpa using hv)
theorem xv_no {v : Value} (h : xnvB v = true) (ad : Nat → Nat) : xv ad v = v := by
  cases v with
  | ref k => simp [xnvB] at h
  | _ => rfl
theorem xvs_no : ∀ {st : List Value}, xnvsB st = true → ∀ ad : Nat → Nat, st.map (xv ad) = st
  | [], _, _ => rfl
  | v :: t, h, ad => by
    have h1 : xnvB v = true ∧ xnvsB t = true := by simpa [xnvsB] using h
    rw [List.map_cons, xv_no h1.1, xvs_no h1.2]
theorem xcvsB_ok {n : Nat} {ad ad' : Nat → Nat} (ha : ∀ k, k < n → ad' k = ad k) : ∀ {st : List Value}, xcvsB n st = true → st.map (xv ad') = st.map (xv ad)
  | [], _ => rfl
  | v :: t, h => by
    have h1 : xcvB n v = true ∧ xcvsB n t = true := by simpa [xcvsB] using h
    have h2 : xv ad' v = xv ad v := by
      cases v with
      | ref k =>
        have h3 : k < n := by simpa [xcvB] using h1.1
        exact congrArg Value.ref (ha k h3)
      | _ => rfl
    rw [List.map_cons, List.map_cons, h2, xcvsB_ok ha h1.2]
theorem xeW_o {n ci : Nat} {fs : List Value} (h : xcvsB n fs = true) : xeW n (.inr (ci, fs)) := by
  intro ad ad' kI kJ kQ ha
  show Sum.inr (ci, fs.map (xv ad')) = Sum.inr (ci, fs.map (xv ad))
  rw [xcvsB_ok ha h]
theorem xeW_i {n m : Nat} {f : Nat → Int32} : xeW n (.inl (m, .inl f)) := fun _ _ _ _ _ _ => rfl
theorem xeW_l {n m : Nat} {f : Nat → Int64} : xeW n (.inl (m, .inr (.inl f))) := fun _ _ _ _ _ _ => rfl
theorem xnth_mem {L : List Nat} : ∀ {i k : Nat}, xnth L i = some k → k ∈ L := by
  intro i k h
  rw [xnth_eq] at h
  exact List.mem_of_getElem? h
theorem xeW_q {n m : Nat} {L : List Nat} (h : L.all (fun k => Nat.blt k n) = true) : xeW n (.inl (m, .inr (.inr (.inr (.inr (xnth L)))))) := by
  intro ad ad' kI kJ kQ ha
  have e : xq ad' (xnth L) = xq ad (xnth L) := by
    funext i
    unfold xq
    cases hx : xnth L i with
    | none => rfl
    | some k =>
      have h1 := List.all_eq_true.mp h k (xnth_mem hx)
      have h2 : k < n := by simpa using h1
      exact congrArg some (ha k h2)
  show Sum.inl (kQ, m, Sum.inr (Sum.inr (Sum.inr (Sum.inr (xq ad' (xnth L)))))) = Sum.inl (kQ, m, Sum.inr (Sum.inr (Sum.inr (Sum.inr (xq ad (xnth L))))))
  rw [e]
theorem xgw_at {n : Nat} : ∀ {G : List xE}, xgw n G → ∀ {k : Nat} {e : xE}, G[k]? = some e → xeW n e
  | [], _, k, e, h => by simp at h
  | a :: t, hw, 0, e, h => by
    have : a = e := by simpa using h
    rw [← this]
    exact hw.1
  | a :: t, hw, k + 1, e, h => xgw_at hw.2 (G := t) (k := k) (by simpa using h)
theorem xw_same {n : Nat} {ad ad' : Nat → Nat} {kI kJ kQ : ClassId} {G : List xE} (hw : xgw n G) (hn : G.length ≤ n) (ha : ∀ k, k < n ∨ 1000 ≤ k → ad' k = ad k) : xw ad' kI kJ kQ G = xw ad kI kJ kQ G := by
  apply List.ext_getElem?
  intro k
  rw [xw_get, xw_get]
  cases hk : G[k]? with
  | none => rfl
  | some e =>
    have h1 : k < G.length := (List.getElem?_eq_some_iff.mp hk).1
    show some (ad' k, xe ad' kI kJ kQ e) = some (ad k, xe ad kI kJ kQ e)
    rw [ha k (Or.inl (by omega)), xgw_at hw hk ad ad' kI kJ kQ (fun k hk => ha k (Or.inl hk))]
def xext (ad : Nat → Nat) (n h : Nat) : Nat → Nat := fun i => if i < n then ad i else if i < 1000 then h + (i - n) else ad i
theorem xext_lt {ad : Nat → Nat} {n h : Nat} (k : Nat) (hk : k < n ∨ 1000 ≤ k) : xext ad n h k = ad k := by
  unfold xext
  by_cases h1 : k < n
  · rw [if_pos h1]
  · rw [if_neg h1, if_neg (by omega)]
theorem xext_at {ad : Nat → Nat} {n h j : Nat} (hl : n + j < 1000) : xext ad n h (n + j) = h + j := by
  unfold xext
  rw [if_neg (by omega), if_pos hl, Nat.add_sub_cancel_left]
theorem xw_app {ad : Nat → Nat} {kI kJ kQ : ClassId} {G E : List xE} : xw ad kI kJ kQ (G ++ E) = xw ad kI kJ kQ G ++ E.mapIdx (fun j e => (ad (G.length + j), xe ad kI kJ kQ e)) := by
  unfold xw
  rw [List.mapIdx_append]
  simp only [Nat.add_comm]
/-- new cells behind the heap's end -/
theorem xgrow {dC : Nat → ClassId} {dI : Nat → Nat → Nat} {ad : Nat → Nat} {kI kJ kQ : ClassId} {A : Nat → Prop} {H0 H H1 : Heap} {locs : List Loc} {G E : List xE} (hP : va_P (dC, dI) vwCl (xw ad kI kJ kQ G) H) (hD : va_D A (xw ad kI kJ kQ G)) (hS : va_S A H0 H locs) (hA : ∀ q, H0.size ≤ q → A q) (hw : xgw G.length G) (hlim : G.length + E.length ≤ 1000) (hsz : H.size ≤ H1.size) (hold : ∀ q, q < H.size → H1[q]? = H[q]?)
    (hnew : ∀ j e, E[j]? = some e → va_at (dC, dI) vwCl (H.size + j, xe (xext ad G.length H.size) kI kJ kQ e) H1) : va_P (dC, dI) vwCl (xw (xext ad G.length H.size) kI kJ kQ (G ++ E)) H1 ∧ va_D A (xw (xext ad G.length H.size) kI kJ kQ (G ++ E)) ∧ va_S A H0 H1 locs := by
  have e1 : xw (xext ad G.length H.size) kI kJ kQ (G ++ E) = xw ad kI kJ kQ G ++ E.mapIdx (fun j e => (H.size + j, xe (xext ad G.length H.size) kI kJ kQ e)) := by
    rw [xw_app, xw_same hw (Nat.le_refl _) xext_lt]
    congr 1
    apply List.ext_getElem?
    intro j
    rw [List.getElem?_mapIdx, List.getElem?_mapIdx]
    cases hj : E[j]? with
    | none => rfl
    | some e =>
      have := (List.getElem?_eq_some_iff.mp hj).1
      show some (xext ad G.length H.size (G.length + j), _) = some (H.size + j, _)
      rw [xext_at (by omega)]
  have hget : ∀ (k : Nat) (q : Nat × va_E), (E.mapIdx (fun j e => (H.size + j, xe (xext ad G.length H.size) kI kJ kQ e)))[k]? = some q → ∃ e, E[k]? = some e ∧ q = (H.size + k, xe (xext ad G.length H.size) kI kJ kQ e) := by
    intro k q hq
    rw [List.getElem?_mapIdx] at hq
    obtain ⟨e, h1, h2⟩ := Option.map_eq_some_iff.mp hq
    exact ⟨e, h1, h2.symm⟩
  rw [e1]
  refine ⟨(hP.kept (fun k q hq => hold q.1 ((hP k q hq).lt))).app (fun k q hq => ?_), ?_, ⟨Nat.le_trans hS.1 hsz, fun q h1 h2 => (hold q (Nat.lt_of_lt_of_le h1 hS.1)).trans (hS.2.1 q h1 h2), hS.2.2⟩⟩
  · obtain ⟨e, h1, rfl⟩ := hget k q hq
    exact hnew k e h1
  · refine hD.app ⟨fun i j a b hi hj hab => ?_, fun k q hq => ?_⟩ (fun i j a b hi hj hab => ?_)
    · obtain ⟨_, -, rfl⟩ := hget i a hi
      obtain ⟨_, -, rfl⟩ := hget j b hj
      have : H.size + i = H.size + j := hab
      omega
    · obtain ⟨_, -, rfl⟩ := hget k q hq
      exact hA _ (Nat.le_trans hS.1 (Nat.le_add_right _ _))
    · obtain ⟨_, -, rfl⟩ := hget j b hj
      have h1 := (hP i a hi).lt
      have : a.1 = H.size + j := hab
      omega
def xAO (U : State) : Prop := (Cond.arrayOver (.array .long)).before #[] U = true
theorem xAO.spec {u : State} (h : xAO u) : ∃ comp c k, u.vm.findClass (FieldType.array .long).toString = some comp ∧ (u.vm.classes.findIdx? fun (x : Class) => match x.kind with | .array component _ => component == comp | _ => false) = some c ∧ u.vm.classes[c]? = some k ∧ (∃ co, k.kind = .array co (.array .long)) ∧ u.vm.findClass ("[" ++ (FieldType.array .long).toString) = some c := by
  unfold xAO Cond.before Cond.holds at h
  simp only [Cond.value] at h
  cases h1 : u.vm.findClass (FieldType.array .long).toString with
  | none => rw [h1] at h; simp at h
  | some comp =>
    rw [h1, Option.bind_some] at h
    revert h
    generalize hq : Array.findIdx? _ u.vm.classes = o
    intro h
    cases o with
    | none => simp at h
    | some c =>
      rw [Option.bind_some] at h
      cases h3 : u.vm.classes[c]? with
      | none => rw [h3] at h; simp at h
      | some k =>
        rw [h3] at h
        simp only [Option.map_some] at h
        cases h4 : k.kind with
        | array co ty =>
          rw [h4] at h
          simp at h
          exact ⟨comp, c, k, rfl, hq, h3, ⟨co, by rw [h4, h.1]⟩, h.2⟩
        | _ => rw [h4] at h; simp at h
theorem xAO.moved {u U : State} (hvm : u.vm.Alike U.vm) (h : xAO u) : xAO U := by
  obtain ⟨comp, c, k, h1, h2, h3, ⟨co, h4⟩, h5⟩ := h.spec
  obtain ⟨k', hk', he⟩ := hvm.2.2 _ _ h3
  have hi : (U.vm.classes.findIdx? fun (x : Class) => match x.kind with | .array component _ => component == comp | _ => false) = some c := by
    have q1 := va_idx_bare U.vm comp
    have q2 := va_idx_bare u.vm comp
    have hb : U.vm.bare = u.vm.bare := by first | exact hvm.bare_eq | exact hvm.bare_eq.symm
    rw [hb] at q1
    exact q1.symm.trans (q2.trans h2)
  have hkind : k'.kind = .array co (.array .long) := by rw [he]; exact h4
  have f1 : U.vm.findClass (FieldType.array .long).toString = some comp := by rw [hvm.findClass]; exact h1
  have f2 : U.vm.findClass ("[" ++ (FieldType.array .long).toString) = some c := by rw [hvm.findClass]; exact h5
  unfold xAO Cond.before Cond.holds
  simp only [Cond.value]
  rw [f1, Option.bind_some]
  refine (congrArg (fun o : Option Nat => (o.bind (fun c => (U.vm.classes[c]?).map fun (k : Class) => match k.kind with | .array _ ty => decide (ty = FieldType.array .long) && decide (U.vm.findClass ("[" ++ (FieldType.array .long).toString) = some c) | _ => false) == some true)) hi).trans ?_
  simp [hk', hkind, f2]
theorem xAO.use {A : Array Value} {U : State} (h : xAO U) : (Cond.arrayOver (.array .long)).before A U = true := h
section XALLOC
variable {p : Program} {l : Launch} {e : Env} {R : Room} {s : State} {m : MethodId} {args : Array Value} {below : List Frame} {meth : Method} {c : Code} {Q : State → Prop} {dC : Nat → ClassId} {dI : Nat → Nat → Nat} {ad : Nat → Nat} {kI kJ kQ : ClassId} {A : Nat → Prop} {H0 : Heap} {nL cells slots : Nat} {own : String} {cc : ByteArray}
theorem xL_ext {n h : Nat} {lv : List (Option Value)} {ls : Array Slot} (hlv : xlvB n lv = true) (hL : xL ad nL lv ls) : xL (xext ad n h) nL lv ls := ⟨hL.1, hL.2.1, hL.2.2.1, fun i v hv => by rw [xlvB_ok xext_lt hlv i v hv]; exact hL.2.2.2 i v hv⟩
theorem xst_ext {n h : Nat} (hn : n < 1000) {st : List Value} (hst : xvsB n st = true) : (Value.ref n :: st).map (xv (xext ad n h)) = .ref h :: st.map (xv ad) := by
  rw [List.map_cons, xvsB_ok xext_lt hst]
  show Value.ref (xext ad n h n) :: _ = _
  have : xext ad n h (n + 0) = h + 0 := xext_at (by omega)
  rw [Nat.add_zero, Nat.add_zero] at this
  rw [this]
theorem xW_new (hS0 : xS p s m args c dC dI kI kJ kQ own cc nL) (hA : ∀ q, H0.size ≤ q → A q) {C : String} {T : u_T} {N ci index pc : Nat} {ty : Nat → FieldType} (hin : ∀ w ∈ u_ws C T N, w ∈ xT) (hty : ∀ k, k < N → parseFieldDescriptor (T k).2.2.1 = some (ty k)) (hcl : Cond.classLink own index C ∈ xT) (hinst : Cond.instantiable C N ∈ xT) (hini : Cond.initialized C ∈ xT) (hc : vwCl[ci]? = some (C, T, N)) {fs : List Value} (hfs : ∀ j, j < N → defaultValue (ty j) = vp_V fs j) (hfr : xnvsB fs = true) (hcells : cells + 1 ≤ R.cells) (hslots : slots + N ≤ R.slots) (hdg : decode cc pc = .ok (.new index, 3))
    {lv : List (Option Value)} {st : List Value} {G : List xE} (hlim : G.length + 1 ≤ 1000) (hw : xgw G.length G) (hlv : xlvB G.length lv = true) (hst : xvsB G.length st = true)
    (kk : ∀ h, xW p l e R s m args below meth c Q dC dI (xext ad G.length h) kI kJ kQ A H0 nL (cells + 1) (slots + N) (pc + 3) lv (.ref G.length :: st) (G ++ [.inr (ci, fs)])) : xW p l e R s m args below meth c Q dC dI ad kI kJ kQ A H0 nL cells slots pc lv st G := by
  intro H locs ls hP hD hS hL
  obtain ⟨hx, hb, hml, hown, hts, hKK, hN⟩ := hS0
  have hKn := hKK.1 ci _ hc
  refine W.newcK hx hb hown (hts _ hcl) (hts _ hinst) (hts _ hini) rfl hdg hcells hslots hKn.2.1 rfl fun H1 kC hkC e1 z1 o1 => ?_
  obtain ⟨g1, g2, g3⟩ := xgrow (E := [.inr (ci, fs)]) hP hD hS hA hw hlim (by rw [z1]; omega) o1 (fun j e he => by
    have hj : j < 1 := by simpa using (List.getElem?_eq_some_iff.mp he).1
    have hj0 : j = 0 := by omega
    subst hj0
    have he0 : (Sum.inr (ci, fs) : xE) = e := by simpa using he
    rw [← he0]
    show va_at (dC, dI) vwCl (H.size + 0, .inr (ci, fs.map (xv _))) H1
    rw [xvs_no hfr]
    exact ⟨_, hc, (u_born ty hts hin hKn hkC e1 hty).to hfs⟩)
  have := kk H.size H1 locs ls g1 g2 g3 (xL_ext hlv hL)
  rw [xst_ext (by omega) hst] at this
  exact this
theorem xW_newa (hS0 : xS p s m args c dC dI kI kJ kQ own cc nL) (hA : ∀ q, H0.size ≤ q → A q) {atype : ArrayType} {pc N : Nat} {n : Int32} {a0 : vp_A} {cK : ClassId} (harr : Cond.arrayClass (newarray.typeOf atype) ∈ xT) (hk : s.vm.findClass ("[" ++ (newarray.typeOf atype).toString) = some cK) (he : ∀ ad, xe ad kI kJ kQ (.inl a0) = .inl (cK, a0)) (ha : ∀ cA : ClassId, vp_cell cA a0 = arrV cA N (fun _ => defaultValue (newarray.typeOf atype))) (hn : ¬ n < 0) (hN : n.toNatClampNeg = N) (hbytes : N * componentBytes (newarray.typeOf atype) ≤ 536870912) (hcells : cells + 1 ≤ R.cells) (hslots : slots + N ≤ R.slots) (hdg : decode cc pc = .ok (.newarray atype, 2))
    {lv : List (Option Value)} {st : List Value} {G : List xE} (hlim : G.length + 1 ≤ 1000) (hw : xgw G.length G) (hlv : xlvB G.length lv = true) (hst : xvsB G.length st = true)
    (kk : ∀ h, xW p l e R s m args below meth c Q dC dI (xext ad G.length h) kI kJ kQ A H0 nL (cells + 1) (slots + N) (pc + 2) lv (.ref G.length :: st) (G ++ [.inl a0])) : xW p l e R s m args below meth c Q dC dI ad kI kJ kQ A H0 nL cells slots pc lv (.int n :: st) G := by
  intro H locs ls hP hD hS hL
  obtain ⟨hx, hb, hml, hown, hts, hKK, hNN⟩ := hS0
  refine va_newaK hx hb (hts _ harr) rfl hdg rfl hn hN hbytes hcells hslots rfl fun H1 cA e1 z1 o1 hAr hNm => ?_
  have hcA : cA = cK := Option.some.inj (hNm.symm.trans hk)
  obtain ⟨g1, g2, g3⟩ := xgrow (E := [.inl a0]) hP hD hS hA hw hlim (by rw [z1]; omega) o1 (fun j e he9 => by
    have hj : j < 1 := by simpa using (List.getElem?_eq_some_iff.mp he9).1
    have hj0 : j = 0 := by omega
    subst hj0
    have he0 : (Sum.inl a0 : xE) = e := by simpa using he9
    rw [← he0, he]
    show H1[H.size + 0]? = some (vp_cell cK a0)
    rw [ha, ← hcA]
    exact e1)
  have := kk H.size H1 locs ls g1 g2 g3 (xL_ext hlv hL)
  rw [xst_ext (by omega) hst] at this
  exact this
/-- new long[N][K] -/
theorem xW_mna (hS0 : xS p s m args c dC dI kI kJ kQ own cc nL) (hA : ∀ q, H0.size ≤ q → A q) (hAO : xAO s) {index pc N K : Nat} {n k : Int32} {L : List Nat} (hcl : Cond.classLink own index ("[" ++ (FieldType.array .long).toString) ∈ xT) (harr : Cond.arrayClass .long ∈ xT) (hn : ¬ n < 0) (hk : ¬ k < 0) (hN : n.toNatClampNeg = N) (hK : k.toNatClampNeg = K) (hb1 : N * 4 ≤ 536870912) (hb2 : K * componentBytes .long ≤ 536870912) (hb3 : K ≤ 536870912) (hcells : cells + (1 + N) ≤ R.cells) (hslots : slots + (N + N * K) ≤ R.slots) (hdg : decode cc pc = .ok (.multianewarray index 2, 4))
    {lv : List (Option Value)} {st : List Value} {G : List xE} (hL9 : L = (List.range N).map (fun i => G.length + 1 + i)) (hlim : G.length + (N + 1) ≤ 1000) (hw : xgw G.length G) (hlv : xlvB G.length lv = true) (hst : xvsB G.length st = true)
    (kk : ∀ h, xW p l e R s m args below meth c Q dC dI (xext ad G.length h) kI kJ kQ A H0 nL (cells + 1 + N) (slots + N + N * K) (pc + 4) lv (.ref G.length :: st) (G ++ (.inl (N, .inr (.inr (.inr (.inr (xnth L))))) :: List.replicate N (.inl (K, .inr (.inl (fun _ => 0))))))) : xW p l e R s m args below meth c Q dC dI ad kI kJ kQ A H0 nL cells slots pc lv (.int k :: .int n :: st) G := by
  subst hN
  subst hK
  intro H locs ls hP hD hS hL
  obtain ⟨hx, hb, hml, hown, hts, hKK, hNN⟩ := hS0
  intro T hT Xs
  obtain ⟨comp, cA, kl, fC, hix, hA9, ⟨co, hkd⟩, fA⟩ := hAO.spec
  have hco9 : co = comp := by
    obtain ⟨hlt, hp, -⟩ := Array.findIdx?_eq_some_iff_getElem.mp hix
    rw [(Array.getElem?_eq_some_iff.mp hA9).2, hkd] at hp
    simpa using hp
  rw [hco9] at hkd
  obtain ⟨V, X', hR, step⟩ := yMulti Xs hx hown (hts _ hcl) fA hA9 hkd fC (hts _ harr) (g := F0 m pc ls ((Value.int k :: Value.int n :: st).map (xv ad))) rfl (by rw [hb]; exact hdg) rfl hn hk hb1 hb2 hb3 hcells hslots
  have hcA : cA = kQ := Option.some.inj (fA.symm.trans (hKK.2 2 _ rfl).2)
  have hco : comp = kJ := Option.some.inj (fC.symm.trans (hKK.2 1 _ rfl).2)
  subst hcA
  subst hco
  rw [hT] at hR
  obtain ⟨f1, hold, f2, hrow⟩ := hR
  obtain ⟨g1, g2, g3⟩ := xgrow (H1 := V.heap) (E := .inl (n.toNatClampNeg, .inr (.inr (.inr (.inr (xnth L))))) :: List.replicate n.toNatClampNeg (.inl (k.toNatClampNeg, .inr (.inl (fun _ => 0))))) hP hD hS hA hw (by rw [List.length_cons, List.length_replicate]; exact hlim) (by rw [f1]; omega) hold (fun j e he => by
    cases j with
    | zero =>
      have he0 : (Sum.inl (n.toNatClampNeg, Sum.inr (Sum.inr (Sum.inr (Sum.inr (xnth L))))) : xE) = e := by simpa using he
      rw [← he0]
      show V.heap[H.size + 0]? = some (vp_cell cA (n.toNatClampNeg, .inr (.inr (.inr (.inr (xq (xext ad G.length H.size) (xnth L)))))))
      rw [Nat.add_zero, f2, vp_cell_q]
      refine congrArg some (congrArg (arrV cA n.toNatClampNeg) (funext fun j => ?_))
      refine congrArg va_rf ?_
      unfold xq
      rw [xnth_eq, hL9, List.getElem?_map]
      by_cases hj : j < n.toNatClampNeg
      · rw [if_pos hj, List.getElem?_range hj]
        show some (H.size + 1 + j) = some (xext ad G.length H.size (G.length + 1 + j))
        rw [Nat.add_assoc G.length, xext_at (by omega), Nat.add_assoc]
      · rw [if_neg hj, List.getElem?_eq_none (by rw [List.length_range]; omega)]
        rfl
    | succ j =>
      have he1 : (List.replicate n.toNatClampNeg (Sum.inl (k.toNatClampNeg, Sum.inr (Sum.inl (fun _ => 0))) : xE))[j]? = some e := by simpa using he
      have hj : j < n.toNatClampNeg := by
        have := (List.getElem?_eq_some_iff.mp he1).1
        simpa using this
      rw [List.getElem?_replicate, if_pos hj] at he1
      rw [← Option.some.inj he1]
      show V.heap[H.size + (j + 1)]? = some (vp_cell comp (k.toNatClampNeg, .inr (.inl (fun _ => 0))))
      rw [show H.size + (j + 1) = H.size + 1 + j by omega]
      exact hrow j hj)
  have hgo := kk H.size V.heap locs ls g1 g2 g3 (xL_ext hlv hL)
  rw [xst_ext (by omega) hst] at hgo
  obtain ⟨t, a1, b1⟩ := hgo V rfl X'
  refine ⟨t, step t ?_, b1⟩
  have e : T.heap.size = H.size := by rw [hT]
  rw [e]
  exact a1
/-- a final field of the object that is made -/
theorem xW_putF (hS0 : xS p s m args c dC dI kI kJ kQ own cc nL) (hin2 : meth.name = "<init>") {C : String} {T : u_T} {N ci index pc j k : Nat} {ty0 : Nat → FieldType} (hin : ∀ w ∈ u_ws C T N, w ∈ xT) (hty : ∀ k, k < N → parseFieldDescriptor (T k).2.2.1 = some (ty0 k)) (hnm : ∀ a, a < N → ∀ b, b < N → a ≠ b → (T a).2.1 ≠ (T b).2.1) (hc : vwCl[ci]? = some (C, T, N)) (hk : k < N) (hlink : Cond.fieldLink own index C (T k).2.1 (T k).2.2.1 ∈ xT) (hfin : (T k).2.2.2 = true) (hdecl : (T k).1 = own) (hC : C = own) {v : Value} (hn : ∀ ad, narrow (ty0 k) (xv ad v) = xv ad v) (hfit : ∀ ad, fits (ty0 k) (xv ad v) = true) {fs : List Value} (hl : k < fs.length) (hdg : decode cc pc = .ok (.putfield index, 3))
    {lv : List (Option Value)} {st : List Value} {G : List xE} (he : xnth G j = some (.inr (ci, fs)))
    (kk : xset (.inr (ci, fs.set k v)) G j (fun G' => xW p l e R s m args below meth c Q dC dI ad kI kJ kQ A H0 nL cells slots (pc + 3) lv st G')) : xW p l e R s m args below meth c Q dC dI ad kI kJ kQ A H0 nL cells slots pc lv (v :: .ref j :: st) G := by
  obtain ⟨h1, h2⟩ := xset_ok _ _ _ _ kk
  intro H locs ls hP hD hS hL
  obtain ⟨hx, hb, hml, hown, hts, hKK, hNN⟩ := hS0
  have hat : (xw ad kI kJ kQ G)[j]? = some (ad j, .inr (ci, fs.map (xv ad))) := xw_at (by rw [← xnth_eq]; exact he)
  refine va_putF (ref := C) (v := xv ad v) hx hb hts hin ty0 hty hnm hown hKK hP hD hS j hat hc k hk (hts _ hlink) (fun x h => by rw [hC, ← hdecl]; exact h) hfin hin2 hdecl (hty k hk) (hn ad) (hfit ad) (by simpa using hl) hdg (fun H1 locs1 g1 g2 g3 => ?_)
  have e1 : (xw ad kI kJ kQ G).set j (ad j, .inr (ci, (fs.map (xv ad)).set k (xv ad v))) = xw ad kI kJ kQ (G.set j (.inr (ci, fs.set k v))) := by
    rw [← xw_set]
    congr 2
    show _ = Sum.inr (ci, (fs.set k v).map (xv ad))
    rw [List.map_set]
  rw [e1] at g1 g2
  exact h2 H1 locs1 ls g1 g2 g3 hL
theorem xW_obj (hS0 : xS p s m args c dC dI kI kJ kQ own cc nL) {idx pc j : Nat} (hlk : Cond.methodLink own idx Lib.objectInit ∈ xT) (hin : Cond.instanceMethod Lib.objectInit ∈ xT) (hcode : Cond.code Lib.objectInit ⟨#[0xb1]⟩ 1 none ∈ xT) (hdg : decode cc pc = .ok (.invokespecial idx, 3)) (hfr : 1 ≤ R.frames)
    {lv : List (Option Value)} {st : List Value} {G : List xE} (hlo : (st.map fun v => v.category).sum + 12 ≤ R.locals) (kk : xW p l e R s m args below meth c Q dC dI ad kI kJ kQ A H0 nL cells slots (pc + 3) lv st G) : xW p l e R s m args below meth c Q dC dI ad kI kJ kQ A H0 nL cells slots pc lv (.ref j :: st) G := by
  intro H locs ls hP hD hS hL
  obtain ⟨hx, hb, hml, hown, hts, hKK, hNN⟩ := hS0
  exact W.objInit hx hb hown (hts _ hlk) (hts _ hin) (hts _ hcode) rfl (by rw [hml]; exact hL.1) rfl hdg hfr (by
    show 2 * 0 + _ + 12 ≤ _
    rw [xcat_sum]
    omega) (kk H locs ls hP hD hS hL)
end XALLOC
