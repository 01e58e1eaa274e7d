/-! contracts over places, calls, entries -/
def xren (rho : Nat → Nat) (e : xE) : xE := match e with
  | .inl (n, .inl f) => .inl (n, .inl f)
  | .inl (n, .inr (.inl f)) => .inl (n, .inr (.inl f))
  | .inl (n, .inr (.inr (.inl f))) => .inl (n, .inr (.inr (.inl f)))
  | .inl (n, .inr (.inr (.inr (.inl f)))) => .inl (n, .inr (.inr (.inr (.inl f))))
  | .inl (n, .inr (.inr (.inr (.inr f)))) => .inl (n, .inr (.inr (.inr (.inr (xq rho f)))))
  | .inr (ci, fs) => .inr (ci, fs.map (xv rho))
def xrho (is : List Nat) (j : Nat) : Nat := match xnth is j with
  | some i => i
  | none => 0
theorem xrho_of {is : List Nat} {j i : Nat} (h : is[j]? = some i) : xrho is j = i := by
  unfold xrho
  rw [xnth_eq, h]
theorem xv_comp (ad rho : Nat → Nat) (v : Value) : xv (fun j => ad (rho j)) v = xv ad (xv rho v) := by cases v <;> rfl
theorem xe_comp (ad rho : Nat → Nat) (kI kJ kQ : ClassId) (e : xE) : xe (fun j => ad (rho j)) kI kJ kQ e = xe ad kI kJ kQ (xren rho e) := by
  obtain ⟨n, f | f | f | f | f⟩ | ⟨ci, fs⟩ := e
  · rfl
  · rfl
  · rfl
  · rfl
  · show (Sum.inl (kQ, n, Sum.inr (Sum.inr (Sum.inr (Sum.inr (xq (fun j => ad (rho j)) f))))) : va_E) = Sum.inl (kQ, n, Sum.inr (Sum.inr (Sum.inr (Sum.inr (xq ad (xq rho f))))))
    have : xq (fun j => ad (rho j)) f = xq ad (xq rho f) := by
      funext i
      unfold xq
      cases f i <;> rfl
    rw [this]
  · show (Sum.inr (ci, fs.map (xv (fun j => ad (rho j)))) : va_E) = Sum.inr (ci, (fs.map (xv rho)).map (xv ad))
    rw [List.map_map]
    congr 3
    funext v
    exact xv_comp ad rho v
/-- the callee's cells among the caller's -/
def xselP (rho : Nat → Nat) (G : List xE) : List Nat → List xE → Prop
  | _, [] => True
  | [], _ :: _ => False
  | i :: is, e :: Gc => xnth G i = some (xren rho e) ∧ xselP rho G is Gc
theorem xselP_at {rho : Nat → Nat} {G : List xE} : ∀ {is : List Nat} {Gc : List xE}, xselP rho G is Gc → ∀ (j : Nat) (e : xE), Gc[j]? = some e → ∃ i, is[j]? = some i ∧ G[i]? = some (xren rho e)
  | _, [], _, j, e, h => by simp at h
  | [], _ :: _, hs, _, _, _ => hs.elim
  | i :: is, e0 :: Gc, hs, 0, e, h => by
    simp at h
    subst h
    exact ⟨i, rfl, by rw [← xnth_eq]; exact hs.1⟩
  | i :: is, e0 :: Gc, hs, j + 1, e, h => by
    simp at h
    obtain ⟨i2, h1, h2⟩ := xselP_at hs.2 j e h
    exact ⟨i2, by simpa using h1, h2⟩
/-- the callee's cells put back -/
def xputK (rho : Nat → Nat) : List Nat → List xE → List xE → (List xE → Prop) → Prop
  | _, [], G, K => K G
  | [], _ :: _, _, _ => False
  | i :: is, e :: G1, G, K => xset (xren rho e) G i (fun G' => xputK rho is G1 G' K)
theorem xputK_ok {rho : Nat → Nat} : ∀ (is : List Nat) (G1 G : List xE) (K : List xE → Prop), xputK rho is G1 G K → ∃ G', K G' ∧ G'.length = G.length ∧ ∀ (k : Nat) (e : xE), G'[k]? = some e → (∃ (j : Nat) (e1 : xE), is[j]? = some k ∧ G1[j]? = some e1 ∧ e = xren rho e1) ∨ (G[k]? = some e ∧ ∀ j : Nat, j < G1.length → is[j]? ≠ some k)
  | is, [], G, K, h => ⟨G, by cases is <;> exact h, rfl, fun k e hk => Or.inr ⟨hk, fun j hj => by simp at hj⟩⟩
  | [], _ :: _, _, _, h => h.elim
  | i :: is, e0 :: G1, G, K, h => by
    obtain ⟨h1, h2⟩ := xset_ok _ _ _ _ h
    obtain ⟨G', h3, h4, h5⟩ := xputK_ok is G1 _ K h2
    refine ⟨G', h3, by simpa using h4, fun k e hk => ?_⟩
    rcases h5 k e hk with ⟨j, e1, q1, q2, q3⟩ | ⟨q1, q2⟩
    · exact Or.inl ⟨j + 1, e1, by simpa using q1, by simpa using q2, q3⟩
    · by_cases hki : i = k
      · subst hki
        rw [List.getElem?_set_self h1] at q1
        exact Or.inl ⟨0, e0, rfl, rfl, (Option.some.inj q1).symm⟩
      · rw [List.getElem?_set_ne hki] at q1
        refine Or.inr ⟨q1, fun j hj => ?_⟩
        cases j with
        | zero => simpa using hki
        | succ j => simpa using q2 j (by simpa using hj)
theorem xw_D {ad : Nat → Nat} {kI kJ kQ : ClassId} {A : Nat → Prop} {G G1 : List xE} (h : va_D A (xw ad kI kJ kQ G)) (hl : G1.length = G.length) : va_D A (xw ad kI kJ kQ G1) := by
  have key : ∀ (k : Nat) (q : Nat × va_E), (xw ad kI kJ kQ G1)[k]? = some q → ∃ q2, (xw ad kI kJ kQ G)[k]? = some q2 ∧ q2.1 = q.1 := by
    intro k q hk
    have h1 : k < G.length := by
      have := (List.getElem?_eq_some_iff.mp hk).1
      rw [xw_len] at this
      omega
    rw [xw_get] at hk
    obtain ⟨e, -, he⟩ := Option.map_eq_some_iff.mp hk
    refine ⟨_, xw_at (List.getElem?_eq_getElem h1), ?_⟩
    rw [← he]
  refine ⟨fun i j x y hi hj hxy => ?_, fun k q hk => ?_⟩
  · obtain ⟨x2, a1, a2⟩ := key i x hi
    obtain ⟨y2, b1, b2⟩ := key j y hj
    exact h.1 i j x2 y2 a1 b1 (by rw [a2, b2]; exact hxy)
  · obtain ⟨q2, a1, a2⟩ := key k q hk
    rw [← a2]
    exact h.2 k q2 a1
def xQ (dC : Nat → ClassId) (dI : Nat → Nat → Nat) (ad : Nat → Nat) (kI kJ kQ : ClassId) (G : List xE) (sz : Nat) (post : Option Value → List xE → Prop) : Array Value → State → Outcome → State → Prop := fun _ st oc t =>
  (∃ (r : Option Value) (G1 : List xE), oc = .returned (r.map (xv ad)) ∧ post r G1 ∧ va_P (dC, dI) vwCl (xw ad kI kJ kQ G1) t.heap) ∧ va_F (va_A (xw ad kI kJ kQ G) sz) st t
/-- a method's contract: with these arguments, from these cells, it returns, and 'post answer cells' -/
def xM (l : Launch) (y : MethodName) (cc : ByteArray) (maxL : Nat) (ret : Option FieldType) (rm : Room) (as : List Value) (G : List xE) (post : Option Value → List xE → Prop) : Prop :=
  ∀ (dC : Nat → ClassId) (dI : Nat → Nat → Nat) (ad : Nat → Nat) (kI kJ kQ : ClassId) (sz : Nat), Met l y (Cond.code y cc maxL ret :: xT) rm
    (va_Pc (as.map (xv ad)) (fun U => U.heap.size = sz ∧ va_P (dC, dI) vwCl (xw ad kI kJ kQ G) U.heap ∧ va_K (dC, dI) vwCl (xty kI kJ kQ) U ∧ va_D (fun _ => True) (xw ad kI kJ kQ G) ∧ xN U))
    (xQ dC dI ad kI kJ kQ G sz post) 0 0 (va_A (xw ad kI kJ kQ G) sz)
/-- what a method's walk may use: X is the machine's predicate -/
def xR (l : Launch) (own : String) (cc : ByteArray) (R : Room) (ret : Option FieldType) (post : Option Value → List xE → Prop) (nL : Nat) (X : Nat → List (Option Value) → List Value → List xE → Prop) : Prop :=
  ∃ (p : Program) (e : Env) (s : State) (m : MethodId) (args : Array Value) (below : List Frame) (meth : Method) (c : Code) (Q : State → Prop) (dC : Nat → ClassId) (dI : Nat → Nat → Nat) (ad : Nat → Nat) (kI kJ kQ : ClassId) (A : Nat → Prop) (H0 : Heap) (cells slots : Nat),
    X = xW p l e R s m args below meth c Q dC dI ad kI kJ kQ A H0 nL cells slots ∧ xS p s m args c dC dI kI kJ kQ own cc nL ∧ (∀ q, H0.size ≤ q → A q) ∧ (cells ≤ R.cells ∧ slots ≤ R.slots) ∧
    (∀ pc lv x G, decode cc pc = .ok (.ireturn, 1) → xnar ret x = true → post (some (.int x)) G → X pc lv [.int x] G) ∧
    (∀ pc lv x G, decode cc pc = .ok (.lreturn, 1) → ret = some .long → post (some (.long x)) G → X pc lv [.long x] G) ∧
    (∀ pc lv G, decode cc pc = .ok (.return_, 1) → ret = none → post none G → X pc lv [] G)
/-- a known call, of the walk's predicate -/
def xHq (cc : ByteArray) (X : Nat → List (Option Value) → List Value → List xE → Prop) (q : Nat × xH) : Prop :=
  ∀ (pc : Nat) (lv : List (Option Value)) (st : List Value) (G : List xE) (K : List Value → List xE → Prop) (ix : Nat), ((q.1 = 2 * ix ∧ decode cc pc = .ok (.invokevirtual ix, 3)) ∨ (q.1 = 2 * ix + 1 ∧ decode cc pc = .ok (.invokestatic ix, 3))) → (∀ st G, K st G → X (pc + 3) lv st G) → q.2 st G K → X pc lv st G
theorem xR.run {l : Launch} {own : String} {cc : ByteArray} {R : Room} {ret : Option FieldType} {post : Option Value → List xE → Prop} {nL : Nat} {X : Nat → List (Option Value) → List Value → List xE → Prop} (h : xR l own cc R ret post nL X)
    {code : List xI} {ft : List xF} {ct : List (Nat × Int64)} {oc : List (Nat × xH)} (hcode : xsf cc code) (hft : ∀ q ∈ ft, xFok own q) (hct : ∀ q ∈ ct, Cond.constantLong own q.1 q.2 ∈ xT) (hoc : ∀ q ∈ oc, xHq cc X q) (bp db sb : List Nat) (n : Nat) {pc : Nat} {lv : List (Option Value)} {st : List Value} {G : List xE}
    (hx : xex code ft ct oc ret post X bp db sb n false (xjmp code (pc : Int)) lv st G) : X pc lv st G := by
  obtain ⟨p, e, s, m, args, below, meth, c, Q, dC, dI, ad, kI, kJ, kQ, A, H0, cells, slots, rfl, hS, -, -, hI, hJ, hV⟩ := h
  obtain ⟨j1, j2⟩ := xsf.jmp (t := (pc : Int)) code hcode
  obtain ⟨i, r, h1, h2⟩ := xex_ok hS hft hct hoc hcode hI hJ hV n false _ lv st G j1 hx
  have h3 := j2 i r h1
  rw [show pc = i.1 by omega]
  exact h2
theorem xgood {y : MethodName} {cc : ByteArray} {maxL : Nat} {ret : Option FieldType} (h : Cond.code y cc maxL ret ∈ xT) : GoodIn xT (Cond.code y cc maxL ret :: xT) := by
  have hg : ∀ w ∈ xT, w ∈ xT ∧ ((w.onTables && w.keeps) = true ∨ ∃ ty, w = .arrayClass ty) := fun w hw => ⟨hw, good_of_word (List.mem_filter.mp hw).2⟩
  intro w hw
  rcases List.mem_cons.mp hw with rfl | hw
  · exact hg _ h
  · exact hg w hw
section XCALL
variable {p : Program} {l : Launch} {e : Env} {R : Room} {s : State} {m : MethodId} {args : Array Value} {below : List Frame} {meth : Method} {c : Code} {Q : State → Prop} {dC : Nat → ClassId} {dI : Nat → Nat → Nat} {ad : Nat → Nat} {kI kJ kQ : ClassId} {A : Nat → Prop} {H0 : Heap} {nL cells slots : Nat} {own : String} {cc : ByteArray}
theorem xW_call {Gc G : List xE} {is : List Nat} {rest : List Value} {post2 : Option Value → List xE → Prop} {pc : Nat} {lv : List (Option Value)} {st : List Value} {av : Array Value} (hA : ∀ q, H0.size ≤ q → A q) (hsel : xselP (xrho is) G is Gc) (hlen : ∀ r G1, post2 r G1 → G1.length = Gc.length)
    (hrun : ∀ (H : Heap) (locs : List Loc) (ls : Array Slot), va_P (dC, dI) vwCl (xw ad kI kJ kQ G) H → va_D A (xw ad kI kJ kQ G) → va_S A H0 H locs → xL ad nL lv ls → va_P (dC, dI) vwCl (xw (fun j => ad (xrho is j)) kI kJ kQ Gc) H → va_D (fun _ => True) (xw (fun j => ad (xrho is j)) kI kJ kQ Gc) → va_Run p l e R s m args below meth c H locs cells slots 0 0 (F0 m pc ls (st.map (xv ad))) (rest.map (xv ad)) (xQ dC dI (fun j => ad (xrho is j)) kI kJ kQ Gc H.size post2 av) (va_A (xw (fun j => ad (xrho is j)) kI kJ kQ Gc) H.size))
    (hnd : va_nd (is.take Gc.length) = true)
    (kk : ∀ r G1, post2 r G1 → xputK (xrho is) is G1 G (fun G' => xW p l e R s m args below meth c Q dC dI ad kI kJ kQ A H0 nL cells slots (pc + 3) lv ((r.map (xv (xrho is))).toList ++ rest) G')) : xW p l e R s m args below meth c Q dC dI ad kI kJ kQ A H0 nL cells slots pc lv st G := by
  intro H locs ls hP hD hS hL
  have hat : ∀ (j : Nat) (q : Nat × va_E), (xw (fun j => ad (xrho is j)) kI kJ kQ Gc)[j]? = some q → ∃ i, is[j]? = some i ∧ j < Gc.length ∧ (xw ad kI kJ kQ G)[i]? = some q := by
    intro j q hq
    have hjl : j < Gc.length := by have := (List.getElem?_eq_some_iff.mp hq).1; rw [xw_len] at this; exact this
    rw [xw_get] at hq
    obtain ⟨e0, h1, h2⟩ := Option.map_eq_some_iff.mp hq
    obtain ⟨i, h3, h4⟩ := xselP_at hsel j e0 h1
    refine ⟨i, h3, hjl, ?_⟩
    rw [xw_at h4, ← h2]
    show some (ad i, xe ad kI kJ kQ (xren (xrho is) e0)) = some (ad (xrho is j), xe (fun j => ad (xrho is j)) kI kJ kQ e0)
    rw [xrho_of h3, xe_comp ad (xrho is)]
  have hPc : va_P (dC, dI) vwCl (xw (fun j => ad (xrho is j)) kI kJ kQ Gc) H := fun j q hq => by
    obtain ⟨i, -, -, h⟩ := hat j q hq
    exact hP i q h
  have hDc : va_D A (xw (fun j => ad (xrho is j)) kI kJ kQ Gc) := by
    refine ⟨fun i j x y hi hj hxy => ?_, fun k q hk => ?_⟩
    · obtain ⟨i2, a1, a2, a3⟩ := hat i x hi
      obtain ⟨j2, b1, b2, b3⟩ := hat j y hj
      have := hD.1 i2 j2 x y a3 b3 hxy
      subst this
      exact va_nd_inj _ hnd i j i2 (by rw [List.getElem?_take_of_lt a2]; exact a1) (by rw [List.getElem?_take_of_lt b2]; exact b1)
    · obtain ⟨i, -, -, h⟩ := hat k q hk
      exact hD.2 i q h
  have hr := hrun H locs ls hP hD hS hL hPc (hDc.weaken (fun _ _ _ _ => trivial))
  intro T hT X
  obtain ⟨v, st₀, t, T', L, h0, X', hL1, e1, e2, ⟨⟨r, G1, hv, hp, hP1⟩, hz, hk⟩, stp⟩ := hr T hT X
  rw [h0] at hz hk
  obtain ⟨G', k1, k2, k3⟩ := xputK_ok _ _ _ _ (kk r G1 hp)
  have hl1 := hlen r G1 hp
  have hfree : ∀ q, va_A (xw (fun j => ad (xrho is j)) kI kJ kQ Gc) H.size q → A q := by
    rintro q (⟨j, e0, h⟩ | h)
    · exact hDc.2 j (q, e0) h
    · exact hA q (Nat.le_trans hS.1 h)
  have hP' : va_P (dC, dI) vwCl (xw ad kI kJ kQ G') T'.heap := by
    intro k q hq
    have hq0 := hq
    rw [xw_get] at hq
    obtain ⟨e0, h1, h2⟩ := Option.map_eq_some_iff.mp hq
    rcases k3 k e0 h1 with ⟨j, e9, q1, q2, q3⟩ | ⟨q1, q2⟩
    · have h5 := hP1 j (ad (xrho is j), xe (fun j => ad (xrho is j)) kI kJ kQ e9) (xw_at q2)
      rw [xe_comp ad (xrho is), ← q3, xrho_of q1, h2] at h5
      rw [e1]
      exact h5
    · have h5 := hP k q (by rw [xw_at q1, ← h2])
      refine h5.kept ?_
      rw [e1]
      refine hk q.1 h5.lt ?_
      rintro (⟨j, e9, h⟩ | h)
      · obtain ⟨i, a1, a2, a3⟩ := hat j _ h
        have hki := hD.1 k i q (q.1, e9) (by rw [xw_at q1, ← h2]) a3 rfl
        subst hki
        exact q2 j (by rw [hl1]; exact a2) a1
      · have := h5.lt
        omega
  have hS' : va_S A H0 T'.heap (locs ++ L) := by
    refine ⟨Nat.le_trans hS.1 (by rw [e1]; exact hz), fun q h1 h2 => ?_, fun q hq => ?_⟩
    · rw [e1, hk q (Nat.lt_of_lt_of_le h1 hS.1) (fun z => h2 (hfree q z))]
      exact hS.2.1 q h1 h2
    · rcases List.mem_append.mp hq with h | h
      · exact hS.2.2 q h
      · exact hfree _ (hL1 q h)
  obtain ⟨t2, a1, b1⟩ := k1 T'.heap (locs ++ L) ls hP' (xw_D hD k2) hS' hL T' rfl X'
  refine ⟨t2, stp t2 ?_, b1⟩
  have hv2 : v = r.map (xv (fun j => ad (xrho is j))) := by cases hv; rfl
  rw [hv2]
  have hst : (r.map (xv (fun j => ad (xrho is j)))).toList ++ rest.map (xv ad) = List.map (xv ad) ((r.map (xv (xrho is))).toList ++ rest) := by
    cases r with
    | none => rfl
    | some w => simp [xv_comp]
  rw [hst]
  exact a1
end XCALL
theorem xblind {av : List Value} {dC : Nat → ClassId} {dI : Nat → Nat → Nat} {ad : Nat → Nat} {kI kJ kQ : ClassId} {sz : Nat} {G : List xE} : FrameBlind (va_Pc av (fun U => U.heap.size = sz ∧ va_P (dC, dI) vwCl (xw ad kI kJ kQ G) U.heap ∧ va_K (dC, dI) vwCl (xty kI kJ kQ) U ∧ va_D (fun _ => True) (xw ad kI kJ kQ G) ∧ xN U)) := by
  intro a U g mk q
  obtain ⟨q0, q1, qP, qK, qD, qN⟩ := q
  exact ⟨q0, q1, qP, va_K.moved (u := U) (U := U.calling g mk a) (Vm.Alike.refl U.vm) qK, qD, xN.same (u := U) (U := U.calling g mk a) rfl qN⟩
theorem xcat_sum (ad : Nat → Nat) (rest : List Value) : ((rest.map (xv ad)).map fun v => v.category).sum = (rest.map fun v => v.category).sum := by
  rw [List.map_map]
  congr 1
  apply List.map_congr_left
  intro v _
  exact xv_cat ad v
theorem xmap_rev (ad rho : Nat → Nat) (as rest : List Value) : ((as.map (xv rho)).reverse ++ rest).map (xv ad) = (as.map (xv (fun j => ad (rho j)))).reverse ++ rest.map (xv ad) := by
  rw [List.map_append, List.map_reverse, List.map_map]
  congr 3
  funext v
  exact (xv_comp ad rho v).symm
section XCALLS
variable {l : Launch} {own : String} {cc : ByteArray} {R : Room} {ret : Option FieldType} {post : Option Value → List xE → Prop} {nL : Nat} {X : Nat → List (Option Value) → List Value → List xE → Prop}
/-- an instance method -/
theorem xR.callV (h : xR l own cc R ret post nL X) {idx : Nat} {y : MethodName} {cb : ByteArray} {maxL n : Nat} {ret2 : Option FieldType} {rm : Room} {j0 : Nat} {as : List Value} {Gc : List xE} {post2 : Option Value → List xE → Prop} (is : List Nat) (rest : List Value) {pc : Nat} {lv : List (Option Value)} {st : List Value} {G : List xE} {ci : Nat} {fs : List Value} {cv : vw_C}
    (hM : xM l y cb maxL ret2 rm (.ref j0 :: as) Gc post2) (hY : xY y cb maxL ret2 n) (hlk : Cond.methodLink own idx y ∈ xT) (hin : Cond.instanceMethod y ∈ xT) (hse : Cond.selects y.cls y y ∈ xT)
    (hR : rm.cells = 0 ∧ rm.slots = 0 ∧ rm.frames + 1 ≤ R.frames ∧ 8 + (maxL + 11) + rm.locals ≤ R.locals) (hdg : decode cc pc = .ok (.invokevirtual idx, 3)) (hn : as.length = n)
    (hst : st = ((Value.ref j0 :: as).map (xv (xrho is))).reverse ++ rest) (hrest : (rest.map fun v => v.category).sum ≤ 8)
    (hrc : xnth G (xrho is j0) = some (.inr (ci, fs))) (hcv : vwCl[ci]? = some cv) (hcn : cv.1 = y.cls)
    (hsel : xselP (xrho is) G is Gc) (hnd : va_nd (is.take Gc.length) = true) (hlen : ∀ r G1, post2 r G1 → G1.length = Gc.length)
    (kk : ∀ r G1, post2 r G1 → xputK (xrho is) is G1 G (fun G' => X (pc + 3) lv ((r.map (xv (xrho is))).toList ++ rest) G')) : X pc lv st G := by
  obtain ⟨p, e, s, m, args, below, meth, c, Q, dC, dI, ad, kI, kJ, kQ, A, H0, cells, slots, rfl, ⟨hx, hb, hml, hown, hts, hKK, hN⟩, hA, ⟨hcl, hsl⟩, -⟩ := h
  obtain ⟨y1, y2, y3, y4, y5⟩ := hY
  refine xW_call (av := (Value.ref (ad (xrho is j0)) :: as.map (xv (fun j => ad (xrho is j)))).toArray) hA hsel hlen ?_ hnd kk
  intro H locs ls hP hD hS hL hPc hDc
  have hrv : (xw ad kI kJ kQ G)[xrho is j0]? = some (ad (xrho is j0), .inr (ci, fs.map (xv ad))) := xw_at (by rw [← xnth_eq]; exact hrc)
  obtain ⟨cellB, g1, g2, g3⟩ := va_recv hKK hP hcv hrv
  rw [hcn] at g3
  refine va_runV (C := y.cls) (b := ad (xrho is j0)) (As := as.map (xv (fun j => ad (xrho is j)))) (n := n) (bytes := cb) (maxL := maxL) (ret := ret2) ⟨hx, hb, hml, hown, hts⟩ (hM dC dI (fun j => ad (xrho is j)) kI kJ kQ H.size) ⟨callB_of n hts (xgood y1) rfl hR.1 hR.2.1 (hts _ y2) (hts _ hlk) ⟨y3, y4, y5⟩ hR.2.2, hts _ hin, hts _ hse⟩ ⟨xblind, ⟨cellB, g1, g2, g3⟩, fun U hU hW => ⟨rfl, by rw [hU], by rw [hU]; exact hPc, va_K.moved hW.alike hKK, hDc, hN.warm hW⟩⟩ rfl (by simpa using hn) hL.1 ?_ ?_ hdg ⟨by omega, by omega⟩
  · show st.map (xv ad) = _
    rw [hst, xmap_rev]
    simp [xv]
  · rw [xcat_sum]
    exact lv_room hrest
/-- a static method -/
theorem xR.callS (h : xR l own cc R ret post nL X) {idx : Nat} {y : MethodName} {cb : ByteArray} {maxL n : Nat} {ret2 : Option FieldType} {rm : Room} {as : List Value} {Gc : List xE} {post2 : Option Value → List xE → Prop} (is : List Nat) (rest : List Value) {pc : Nat} {lv : List (Option Value)} {st : List Value} {G : List xE}
    (hM : xM l y cb maxL ret2 rm as Gc post2) (hY : xY y cb maxL ret2 n) (hlk : Cond.methodLink own idx y ∈ xT) (hin : Cond.static y ∈ xT)
    (hR : rm.cells = 0 ∧ rm.slots = 0 ∧ rm.frames + 1 ≤ R.frames ∧ 8 + (maxL + 11) + rm.locals ≤ R.locals) (hdg : decode cc pc = .ok (.invokestatic idx, 3)) (hn : as.length = n)
    (hst : st = (as.map (xv (xrho is))).reverse ++ rest) (hrest : (rest.map fun v => v.category).sum ≤ 8)
    (hsel : xselP (xrho is) G is Gc) (hnd : va_nd (is.take Gc.length) = true) (hlen : ∀ r G1, post2 r G1 → G1.length = Gc.length)
    (kk : ∀ r G1, post2 r G1 → xputK (xrho is) is G1 G (fun G' => X (pc + 3) lv ((r.map (xv (xrho is))).toList ++ rest) G')) : X pc lv st G := by
  obtain ⟨p, e, s, m, args, below, meth, c, Q, dC, dI, ad, kI, kJ, kQ, A, H0, cells, slots, rfl, ⟨hx, hb, hml, hown, hts, hKK, hN⟩, hA, ⟨hcl, hsl⟩, -⟩ := h
  obtain ⟨y1, y2, y3, y4, y5⟩ := hY
  refine xW_call (av := (as.map (xv (fun j => ad (xrho is j)))).toArray) hA hsel hlen ?_ hnd kk
  intro H locs ls hP hD hS hL hPc hDc
  refine va_runS (As := as.map (xv (fun j => ad (xrho is j)))) (n := n) (bytes := cb) (maxL := maxL) (ret := ret2) ⟨hx, hb, hml, hown, hts⟩ (hM dC dI (fun j => ad (xrho is j)) kI kJ kQ H.size) ⟨callB_of n hts (xgood y1) rfl hR.1 hR.2.1 (hts _ y2) (hts _ hlk) ⟨y3, y4, y5⟩ hR.2.2, hts _ hin⟩ ⟨xblind, fun U hU hW => ⟨rfl, by rw [hU], by rw [hU]; exact hPc, va_K.moved hW.alike hKK, hDc, hN.warm hW⟩⟩ rfl (by simpa using hn) hL.1 ?_ ?_ hdg ⟨by omega, by omega⟩
  · show st.map (xv ad) = _
    rw [hst, xmap_rev]
  · rw [xcat_sum]
    exact lv_room hrest
/-- a private static method of a nest mate -/
theorem xR.callSN (h : xR l own cc R ret post nL X) {idx : Nat} {host : String} {y : MethodName} {cb : ByteArray} {maxL n : Nat} {ret2 : Option FieldType} {rm : Room} {as : List Value} {Gc : List xE} {post2 : Option Value → List xE → Prop} (is : List Nat) (rest : List Value) {pc : Nat} {lv : List (Option Value)} {st : List Value} {G : List xE}
    (hM : xM l y cb maxL ret2 rm as Gc post2) (hY : xY y cb maxL ret2 n) (hlk : Cond.methodLinkNest own idx y host ∈ tables_1) (hin : Cond.static y ∈ xT)
    (hR : rm.cells = 0 ∧ rm.slots = 0 ∧ rm.frames + 1 ≤ R.frames ∧ 8 + (maxL + 11) + rm.locals ≤ R.locals) (hdg : decode cc pc = .ok (.invokestatic idx, 3)) (hn : as.length = n)
    (hst : st = (as.map (xv (xrho is))).reverse ++ rest) (hrest : (rest.map fun v => v.category).sum ≤ 8)
    (hsel : xselP (xrho is) G is Gc) (hnd : va_nd (is.take Gc.length) = true) (hlen : ∀ r G1, post2 r G1 → G1.length = Gc.length)
    (kk : ∀ r G1, post2 r G1 → xputK (xrho is) is G1 G (fun G' => X (pc + 3) lv ((r.map (xv (xrho is))).toList ++ rest) G')) : X pc lv st G := by
  obtain ⟨p, e, s, m, args, below, meth, c, Q, dC, dI, ad, kI, kJ, kQ, A, H0, cells, slots, rfl, ⟨hx, hb, hml, hown, hts, hKK, hN⟩, hA, ⟨hcl, hsl⟩, -⟩ := h
  obtain ⟨y1, y2, y3, y4, y5⟩ := hY
  refine xW_call (av := (as.map (xv (fun j => ad (xrho is j)))).toArray) hA hsel hlen ?_ hnd kk
  intro H locs ls hP hD hS hL hPc hDc
  refine va_runSN (host := host) (As := as.map (xv (fun j => ad (xrho is j)))) (n := n) (bytes := cb) (maxL := maxL) (ret := ret2) ⟨hx, hb, hml, hown, hts⟩ (hM dC dI (fun j => ad (xrho is j)) kI kJ kQ H.size) ⟨va_cnB n hts (xgood y1) rfl hR.1 hR.2.1 (hN _ hlk rfl) (hts _ y2) ⟨y3, y4, y5⟩ hR.2.2, hts _ hin, trivial⟩ ⟨xblind, fun U hU hW => ⟨rfl, by rw [hU], by rw [hU]; exact hPc, va_K.moved hW.alike hKK, hDc, hN.warm hW⟩⟩ rfl (by simpa using hn) hL.1 ?_ ?_ hdg ⟨by omega, by omega⟩
  · show st.map (xv ad) = _
    rw [hst, xmap_rev]
  · rw [xcat_sum]
    exact lv_room hrest
end XCALLS
/-- the locals with which a method begins -/
def xlv : List Value → Nat → List (Option Value)
  | [], n => List.replicate n none
  | v :: vs, n => cond (Nat.beq v.category 2) (some v :: none :: xlv vs (n - 2)) (some v :: xlv vs (n - 1))
theorem xlv_len : ∀ (as : List Value) (n : Nat), (lg_sl as).length ≤ n → (xlv as n).length = n
  | [], n, _ => by simp [xlv]
  | v :: vs, n, h => by
    unfold xlv
    rcases lv_cat v with hc | hc
    · have h1 : (lg_sl (v :: vs)).length = 1 + (lg_sl vs).length := by simp [lg_sl, hc]; omega
      rw [hc]
      show (some v :: xlv vs (n - 1)).length = n
      rw [List.length_cons, xlv_len vs (n - 1) (by omega)]
      omega
    · have h1 : (lg_sl (v :: vs)).length = 2 + (lg_sl vs).length := by simp [lg_sl, hc]; omega
      rw [hc]
      show (some v :: none :: xlv vs (n - 2)).length = n
      rw [List.length_cons, List.length_cons, xlv_len vs (n - 2) (by omega)]
      omega
theorem xlv_mem (ad : Nat → Nat) : ∀ (as : List Value) (n k i : Nat) (v : Value), (xlv as n)[i]? = some (some v) → (k + i, xv ad v) ∈ lv_args k (as.map (xv ad))
  | [], n, k, i, v, h => by
    simp [xlv, List.getElem?_replicate] at h
  | w :: vs, n, k, i, v, h => by
    unfold xlv at h
    show (k + i, xv ad v) ∈ (k, xv ad w) :: lv_args (if (xv ad w).category = 2 then k + 2 else k + 1) (vs.map (xv ad))
    rw [xv_cat]
    rcases lv_cat w with hc | hc
    · rw [hc] at h ⊢
      change (some w :: xlv vs (n - 1))[i]? = some (some v) at h
      cases i with
      | zero => simp at h; subst h; exact List.mem_cons_self
      | succ i =>
        rw [List.getElem?_cons_succ] at h
        have h2 := xlv_mem ad vs (n - 1) (k + 1) i v h
        refine List.mem_cons_of_mem _ ?_
        simp only [show ¬ (1 : Nat) = 2 by decide, if_false]
        rw [show k + (i + 1) = k + 1 + i by omega]
        exact h2
    · rw [hc] at h ⊢
      change (some w :: none :: xlv vs (n - 2))[i]? = some (some v) at h
      cases i with
      | zero => simp at h; subst h; exact List.mem_cons_self
      | succ i =>
        cases i with
        | zero => simp at h
        | succ i =>
          rw [List.getElem?_cons_succ, List.getElem?_cons_succ] at h
          have h2 := xlv_mem ad vs (n - 2) (k + 2) i v h
          refine List.mem_cons_of_mem _ ?_
          simp only [if_true]
          rw [show k + (i + 1 + 1) = k + 2 + i by omega]
          exact h2
theorem xsl_len (ad : Nat → Nat) (as : List Value) : (lg_sl (as.map (xv ad))).length = (lg_sl as).length := by
  induction as with
  | nil => rfl
  | cons v t ih =>
    have : (lg_sl (v :: t)).length = (if v.category = 2 then 2 else 1) + (lg_sl t).length := by
      by_cases hc : v.category = 2 <;> simp [lg_sl, hc] <;> omega
    have h2 : (lg_sl ((v :: t).map (xv ad))).length = (if (xv ad v).category = 2 then 2 else 1) + (lg_sl (t.map (xv ad))).length := by
      by_cases hc : (xv ad v).category = 2 <;> simp [lg_sl, hc] <;> omega
    rw [this, h2, ih, xv_cat]
theorem xM.of {l : Launch} {y : MethodName} {cc : ByteArray} {maxL : Nat} {ret : Option FieldType} {rm : Room} {as : List Value} {G : List xE} {post : Option Value → List xE → Prop} (hy : plainName y.cls = true) (hfit : (lg_sl as).length ≤ maxL)
    (body : ∀ X, xR l y.cls cc rm ret post maxL X → X 0 (xlv as maxL) [] G) : xM l y cc maxL ret rm as G post := by
  intro dC dI ad kI kJ kQ sz
  refine Met.ofW (cc := cc) (maxL := maxL) (ret := ret) hy rfl ?_
  intro p e s m args below meth c s₁ B hml hv
  obtain ⟨rfl, hsz, hP, hK, hD0, hN⟩ := hv
  have hx := B.exec
  have hb := B.bytes
  have hr := B.returns
  have hts0 := atoms_spec (ws := Cond.code y cc maxL ret :: xT) B.pre
  have hown : s.vm.findClass y.cls = some m.cls := findClass_of_methodNamed B.named
  have hlocks := B.notSynchronized
  subst hsz
  have hD := hD0.self (sz := s.heap.size)
  have hA : ∀ q : Nat, s.heap.size ≤ q → va_A (xw ad kI kJ kQ G) s.heap.size q := fun q h => Or.inr h
  have hS : va_S (va_A (xw ad kI kJ kQ G) s.heap.size) s.heap s.heap [] := va_S.rf
  have hl := lv_entry (as.map (xv ad)) (n := maxL) (by rw [xsl_len]; exact hfit)
  rw [lg_entry_eq]
  generalize (lg_sl (as.map (xv ad)) ++ List.replicate (maxL - (lg_sl (as.map (xv ad))).length) Slot.unset).toArray = ls at hl ⊢
  have hL : xL ad maxL (xlv as maxL) ls := ⟨hl.1, hl.2.1, xlv_len as maxL hfit, fun i v hv => hl.2.2 (i, xv ad v) (by have := xlv_mem ad as maxL 0 i v hv; simpa using this)⟩
  have key := body (xW p l e rm s m (as.map (xv ad)).toArray below meth c (MQ below (xQ dC dI ad kI kJ kQ G s.heap.size post) (as.map (xv ad)).toArray s 0 0 (va_A (xw ad kI kJ kQ G) s.heap.size)) dC dI ad kI kJ kQ (va_A (xw ad kI kJ kQ G) s.heap.size) s.heap maxL 0 0) ?_
  · exact key s.heap [] ls hP hD hS hL
  · refine ⟨p, e, s, m, _, below, meth, c, _, dC, dI, ad, kI, kJ, kQ, _, s.heap, 0, 0, rfl, ⟨hx, hb, hml, hown, fun w hw => hts0 w (List.mem_cons_of_mem _ hw), hK, hN⟩, hA, ⟨Nat.zero_le _, Nat.zero_le _⟩, ?_, ?_, ?_⟩
    · intro pc lv x G1 hdg hn hp H locs ls2 hP2 hD2 hS2 hL2
      unfold xnar at hn
      split at hn
      next => exact W.iret hx hb hr (fun t ht hW => ⟨⟨some (.int x), G1, rfl, hp, by rw [ht]; exact hP2⟩, hS2.F ht⟩) hS2.2.2 hdg hlocks
      next => exact W.zret hx hb hr (of_decide_eq_true hn) (fun t ht hW => ⟨⟨some (.int x), G1, rfl, hp, by rw [ht]; exact hP2⟩, hS2.F ht⟩) hS2.2.2 hdg hlocks
      next => cases hn
    · intro pc lv x G1 hdg hn hp H locs ls2 hP2 hD2 hS2 hL2
      exact W.lret hx hb (by rw [hr, hn]) (fun t ht hW => ⟨⟨some (.long x), G1, rfl, hp, by rw [ht]; exact hP2⟩, hS2.F ht⟩) hS2.2.2 hdg hlocks
    · intro pc lv G1 hdg hn hp H locs ls2 hP2 hD2 hS2 hL2
      exact W.vret hx hb (by rw [hr, hn]) (fun t ht hW => ⟨⟨none, G1, rfl, hp, by rw [ht]; exact hP2⟩, hS2.F ht⟩) hS2.2.2 hdg hlocks
