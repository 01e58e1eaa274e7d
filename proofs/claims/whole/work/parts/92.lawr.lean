/-! the law's calls: the class's world first, the reference's behind it -/
theorem va_D_fst {A : Nat → Prop} {w1 w2 : va_W} (h : va_D A w1) (he : w2.map Prod.fst = w1.map Prod.fst) : va_D A w2 := by
  have key : ∀ (k : Nat) (q : Nat × va_E), w2[k]? = some q → ∃ q2, w1[k]? = some q2 ∧ q2.1 = q.1 := by
    intro k q hk
    have h1 : (w2.map Prod.fst)[k]? = some q.1 := by rw [List.getElem?_map, hk]; rfl
    rw [he, List.getElem?_map] at h1
    obtain ⟨q2, h2, h3⟩ := Option.map_eq_some_iff.mp h1
    exact ⟨q2, h2, h3⟩
  refine ⟨fun i j a b hi hj hab => ?_, fun k q hk => ?_⟩
  · obtain ⟨a2, p1, p2⟩ := key i a hi
    obtain ⟨b2, p3, p4⟩ := key j b hj
    exact h.1 i j a2 b2 p1 p3 (by rw [p2, p4]; exact hab)
  · obtain ⟨q2, p1, p2⟩ := key k q hk
    rw [← p2]
    exact h.2 k q2 p1
theorem xw_fst {ad : Nat → Nat} {kI kJ kQ : ClassId} {G G1 : List xE} (h : G1.length = G.length) : (xw ad kI kJ kQ G1).map Prod.fst = (xw ad kI kJ kQ G).map Prod.fst := by
  have key : ∀ G : List xE, (xw ad kI kJ kQ G).map Prod.fst = (List.range G.length).map ad := by
    intro G
    apply List.ext_getElem?
    intro k
    rw [List.getElem?_map, xw_get, List.getElem?_map]
    by_cases hk : k < G.length
    · rw [List.getElem?_eq_getElem hk, List.getElem?_range hk]
      rfl
    · rw [List.getElem?_eq_none (by omega), List.getElem?_eq_none (by rw [List.length_range]; omega)]
      rfl
  rw [key, key, h]
section XLAW
variable {p : Program} {l : Launch} {e : Env} {R : Room} {s : State} {m : MethodId} {args : Array Value} {below : List Frame} {meth : Method} {c : Code} {Q : State → Prop} {dC : Nat → ClassId} {dI : Nat → Nat → Nat} {ad : Nat → Nat} {kI kJ kQ : ClassId} {A : Nat → Prop} {H0 : Heap} {nL cells slots : Nat} {own : String} {cc : ByteArray}
theorem xW_callSub {G Gc : List xE} {adc : Nat → Nat} {W1 W2 : va_W} {rest : List Value} {post2 : Option Value → List xE → Prop} {pc : Nat} {lv : List (Option Value)} {st : List Value} {av : Array Value} (hA : ∀ q, H0.size ≤ q → A q) (hG : xw ad kI kJ kQ G = W1 ++ xw adc kI kJ kQ Gc ++ W2) (hlen : ∀ r G1, post2 r G1 → G1.length = Gc.length) (hrr : ∀ r G1, post2 r G1 → r.map (xv adc) = r.map (xv ad))
    (hrun : ∀ (H : Heap) (locs : List Loc) (ls : Array Slot), va_P (dC, dI) vwCl (xw adc kI kJ kQ Gc) H → va_D A (xw adc kI kJ kQ Gc) → va_S A H0 H locs → xL ad nL lv ls → va_Run p l e R s m args below meth c H locs cells slots 0 0 (F0 m pc ls (st.map (xv ad))) (rest.map (xv ad)) (xQ dC dI adc kI kJ kQ Gc H.size post2 av) (va_A (xw adc kI kJ kQ Gc) H.size))
    (kk : ∀ r G1, post2 r G1 → ∃ G', xw ad kI kJ kQ G' = W1 ++ xw adc kI kJ kQ G1 ++ W2 ∧ xW p l e R s m args below meth c Q dC dI ad kI kJ kQ A H0 nL cells slots (pc + 3) lv (r.toList ++ rest) G') : xW p l e R s m args below meth c Q dC dI ad kI kJ kQ A H0 nL cells slots pc lv st G := by
  intro H locs ls hP hD hS hL
  rw [hG] at hP hD
  have in1 : ∀ (k : Nat) (q : Nat × va_E), W1[k]? = some q → (W1 ++ xw adc kI kJ kQ Gc ++ W2)[k]? = some q := fun k q hq => by
    have h1 := (List.getElem?_eq_some_iff.mp hq).1
    rw [List.getElem?_append_left (by rw [List.length_append]; omega), List.getElem?_append_left h1]
    exact hq
  have in2 : ∀ (k : Nat) (q : Nat × va_E), (xw adc kI kJ kQ Gc)[k]? = some q → (W1 ++ xw adc kI kJ kQ Gc ++ W2)[W1.length + k]? = some q := fun k q hq => by
    have h1 := (List.getElem?_eq_some_iff.mp hq).1
    rw [List.getElem?_append_left (by rw [List.length_append]; omega), List.getElem?_append_right (by omega), Nat.add_sub_cancel_left]
    exact hq
  have in3 : ∀ (k : Nat) (q : Nat × va_E), W2[k]? = some q → (W1 ++ xw adc kI kJ kQ Gc ++ W2)[(W1 ++ xw adc kI kJ kQ Gc).length + k]? = some q := fun k q hq => by
    rw [List.getElem?_append_right (by omega), Nat.add_sub_cancel_left]
    exact hq
  have hPc : va_P (dC, dI) vwCl (xw adc kI kJ kQ Gc) H := fun k q hq => hP _ q (in2 k q hq)
  have hDc : va_D A (xw adc kI kJ kQ Gc) := ⟨fun i j a b hi hj hab => by
    have := hD.1 _ _ a b (in2 i a hi) (in2 j b hj) hab
    omega, fun k q hq => hD.2 _ q (in2 k q hq)⟩
  have hr := hrun H locs ls hPc hDc hS hL
  intro T hT X
  obtain ⟨v, st₀, t, T', L, h0, X', hL1, e1, e2, ⟨⟨r, G1, hv, hp, hP1⟩, hz, hk⟩, stp⟩ := hr T hT X
  rw [h0] at hz hk
  have hl1 := hlen r G1 hp
  have hfree : ∀ q, va_A (xw adc kI kJ kQ Gc) H.size q → A q := by
    rintro q (⟨j, e0, h⟩ | h)
    · exact hDc.2 j (q, e0) h
    · exact hA q (Nat.le_trans hS.1 h)
  have hS' : va_S A H0 T'.heap (locs ++ L) := by
    refine ⟨Nat.le_trans hS.1 (by rw [e1]; exact hz), fun q h1 h2 => ?_, fun q hq => ?_⟩
    · rw [e1, hk q (Nat.lt_of_lt_of_le h1 hS.1) (fun z => h2 (hfree q z))]
      exact hS.2.1 q h1 h2
    · rcases List.mem_append.mp hq with h | h
      · exact hS.2.2 q h
      · exact hfree _ (hL1 q h)
  have h1 : ∀ (k : Nat) (q : Nat × va_E), W1[k]? = some q → t.heap[q.1]? = H[q.1]? := by
    intro k q hq
    refine hk q.1 ((hP _ q (in1 k q hq)).lt) ?_
    rintro (⟨j, e0, h⟩ | h)
    · have := hD.1 _ _ q (q.1, e0) (in1 k q hq) (in2 j _ h) rfl
      have := (List.getElem?_eq_some_iff.mp hq).1
      omega
    · have := (hP _ q (in1 k q hq)).lt
      omega
  have h3 : ∀ (k : Nat) (q : Nat × va_E), W2[k]? = some q → t.heap[q.1]? = H[q.1]? := by
    intro k q hq
    refine hk q.1 ((hP _ q (in3 k q hq)).lt) ?_
    rintro (⟨j, e0, h⟩ | h)
    · have h5 := hD.1 _ _ q (q.1, e0) (in3 k q hq) (in2 j _ h) rfl
      have h6 := (List.getElem?_eq_some_iff.mp h).1
      rw [List.length_append] at h5
      omega
    · have := (hP _ q (in3 k q hq)).lt
      omega
  have hP1' : va_P (dC, dI) vwCl W1 H := fun k q hq => hP _ q (in1 k q hq)
  have hP3' : va_P (dC, dI) vwCl W2 H := fun k q hq => hP _ q (in3 k q hq)
  obtain ⟨G', hG', hX'⟩ := kk r G1 hp
  obtain ⟨t2, a1, b1⟩ := hX' T'.heap (locs ++ L) ls (by
    rw [hG', e1]
    exact ((hP1'.kept h1).app hP1).app (hP3'.kept h3)) (by
    rw [hG']
    refine va_D_fst hD ?_
    rw [List.map_append, List.map_append, List.map_append, List.map_append, xw_fst hl1]) hS' hL T' rfl X'
  refine ⟨t2, stp t2 ?_, b1⟩
  have hv2 : v = r.map (xv ad) := by
    rw [← hrr r G1 hp]
    cases hv
    rfl
  rw [hv2]
  have hst : (r.map (xv ad)).toList ++ rest.map (xv ad) = List.map (xv ad) (r.toList ++ rest) := by
    cases r with
    | none => rfl
    | some w => simp
  rw [hst]
  exact a1
end XLAW
section XLAW2
variable {l : Launch} {own : String} {cc : ByteArray} {R : Room} {ret : Option FieldType} {post : Option Value → List xE → Prop} {nL : Nat} {X : Nat → List (Option Value) → List Value → List xE → Prop}
theorem xr_no {r : Option Value} (h : ∀ v, r = some v → xnvB v = true) (ad ad' : Nat → Nat) : r.map (xv ad) = r.map (xv ad') := by
  cases r with
  | none => rfl
  | some v => rw [Option.map_some, Option.map_some, xv_no (h v rfl), xv_no (h v rfl)]
/-- a call over the world's first cells -/
theorem xR.callP (h : xR l own cc R ret post nL X) {idx : Nat} {y : MethodName} {cb : ByteArray} {maxL n : Nat} {ret2 : Option FieldType} {rm : Room} {as : List Value} {post2 : Option Value → List xE → Prop} {rest : List Value} {pc : Nat} {lv : List (Option Value)} {G0 G2 : List xE} {ci : Nat} {fs : List Value} {cv : vw_C}
    (hM : xM l y cb maxL ret2 rm (.ref 0 :: as) G0 post2) (hY : xY y cb maxL ret2 n) (hlk : Cond.methodLink own idx y ∈ xT) (hin : Cond.instanceMethod y ∈ xT) (hse : Cond.selects y.cls y y ∈ xT)
    (hR : rm.cells = 0 ∧ rm.slots = 0 ∧ rm.frames + 1 ≤ R.frames ∧ 8 + (maxL + 11) + rm.locals ≤ R.locals) (hdg : decode cc pc = .ok (.invokevirtual idx, 3)) (hn : as.length = n) (has : xnvsB as = true) (hrest : (rest.map fun v => v.category).sum ≤ 8)
    (hrc : xnth G0 0 = some (.inr (ci, fs))) (hcv : vwCl[ci]? = some cv) (hcn : cv.1 = y.cls) (hlen : ∀ r G1, post2 r G1 → G1.length = G0.length) (hrr : ∀ r G1, post2 r G1 → ∀ v, r = some v → xnvB v = true)
    (kk : ∀ r G1, post2 r G1 → X (pc + 3) lv (r.toList ++ rest) (G1 ++ G2)) : X pc lv (as.reverse ++ .ref 0 :: rest) (G0 ++ G2) := by
  obtain ⟨p, e, s, m, args, below, meth, c, Q, dC, dI, ad, kI, kJ, kQ, A, H0, cells, slots, rfl, ⟨hx, hb, hml, hown, hts, hKK, hN⟩, hA, ⟨hcl, hsl⟩, -⟩ := h
  obtain ⟨y1, y2, y3, y4, y5⟩ := hY
  refine xW_callSub (W1 := []) (Gc := G0) (adc := ad) (W2 := G2.mapIdx (fun j e => (ad (G0.length + j), xe ad kI kJ kQ e))) (rest := rest) (post2 := post2) (av := (Value.ref (ad 0) :: as.map (xv ad)).toArray) hA xw_app hlen (fun _ _ _ => rfl) ?_ (fun r G1 hp => ⟨G1 ++ G2, by rw [xw_app, hlen r G1 hp]; rfl, kk r G1 hp⟩)
  intro H locs ls hP hD hS hL
  have hrv : (xw ad kI kJ kQ G0)[0]? = some (ad 0, .inr (ci, fs.map (xv ad))) := xw_at (by rw [← xnth_eq]; exact hrc)
  obtain ⟨cellB, g1, g2, g3⟩ := va_recv hKK hP hcv hrv
  rw [hcn] at g3
  refine va_runV (C := y.cls) (b := ad 0) (As := as.map (xv ad)) (n := n) (bytes := cb) (maxL := maxL) (ret := ret2) ⟨hx, hb, hml, hown, hts⟩ (hM dC dI ad kI kJ kQ H.size) ⟨callB_of n hts (xgood y1) rfl hR.1 hR.2.1 (hts _ y2) (hts _ hlk) ⟨y3, y4, y5⟩ hR.2.2, hts _ hin, hts _ hse⟩ ⟨xblind, ⟨cellB, g1, g2, g3⟩, fun U hU hW => ⟨rfl, by rw [hU], by rw [hU]; exact hP, va_K.moved hW.alike hKK, hD.weaken (fun _ _ _ _ => trivial), hN.warm hW⟩⟩ rfl (by simpa using hn) hL.1 ?_ ?_ hdg ⟨by omega, by omega⟩
  · show (as.reverse ++ .ref 0 :: rest).map (xv ad) = _
    simp [xv]
  · rw [xcat_sum]
    exact lv_room hrest
/-- a call over the cells behind the first n -/
theorem xR.callQ (h : xR l own cc R ret post nL X) {idx : Nat} {y : MethodName} {cb : ByteArray} {maxL n : Nat} {ret2 : Option FieldType} {rm : Room} {as : List Value} {post2 : Option Value → List xE → Prop} {rest : List Value} {pc : Nat} {lv : List (Option Value)} {G0 Gr : List xE} {ci : Nat} {fs : List Value} {cv : vw_C} (N : Nat) (hN9 : G0.length = N)
    (hM : xM l y cb maxL ret2 rm (.ref 0 :: as) Gr post2) (hY : xY y cb maxL ret2 n) (hlk : Cond.methodLink own idx y ∈ xT) (hin : Cond.instanceMethod y ∈ xT) (hse : Cond.selects y.cls y y ∈ xT)
    (hR : rm.cells = 0 ∧ rm.slots = 0 ∧ rm.frames + 1 ≤ R.frames ∧ 8 + (maxL + 11) + rm.locals ≤ R.locals) (hdg : decode cc pc = .ok (.invokevirtual idx, 3)) (hn : as.length = n) (has : xnvsB as = true) (hrest : (rest.map fun v => v.category).sum ≤ 8)
    (hrc : xnth Gr 0 = some (.inr (ci, fs))) (hcv : vwCl[ci]? = some cv) (hcn : cv.1 = y.cls) (hlen : ∀ r G1, post2 r G1 → G1.length = Gr.length) (hrr : ∀ r G1, post2 r G1 → ∀ v, r = some v → xnvB v = true)
    (kk : ∀ r G1, post2 r G1 → X (pc + 3) lv (r.toList ++ rest) (G0 ++ G1.map (xren (fun j => N + j)))) : X pc lv (as.reverse ++ .ref N :: rest) (G0 ++ Gr.map (xren (fun j => N + j))) := by
  obtain ⟨p, e, s, m, args, below, meth, c, Q, dC, dI, ad, kI, kJ, kQ, A, H0, cells, slots, rfl, ⟨hx, hb, hml, hown, hts, hKK, hN⟩, hA, ⟨hcl, hsl⟩, -⟩ := h
  obtain ⟨y1, y2, y3, y4, y5⟩ := hY
  subst hN9
  have ew : ∀ G1 : List xE, xw ad kI kJ kQ (G0 ++ G1.map (xren (fun j => G0.length + j))) = xw ad kI kJ kQ G0 ++ xw (fun j => ad (G0.length + j)) kI kJ kQ G1 ++ [] := by
    intro G1
    rw [xw_app, List.append_nil]
    congr 1
    apply List.ext_getElem?
    intro j
    rw [List.getElem?_mapIdx, List.getElem?_map, xw_get]
    cases G1[j]? with
    | none => rfl
    | some e9 =>
      show some (ad (G0.length + j), xe ad kI kJ kQ (xren (fun j => G0.length + j) e9)) = some (ad (G0.length + j), xe (fun j => ad (G0.length + j)) kI kJ kQ e9)
      rw [← xe_comp]
  refine xW_callSub (W1 := xw ad kI kJ kQ G0) (Gc := Gr) (adc := fun j => ad (G0.length + j)) (W2 := []) (rest := rest) (post2 := post2) (av := (Value.ref (ad (G0.length + 0)) :: as.map (xv (fun j => ad (G0.length + j)))).toArray) hA (ew Gr) hlen (fun r G1 hp => xr_no (hrr r G1 hp) _ _) ?_ (fun r G1 hp => ⟨_, ew G1, kk r G1 hp⟩)
  intro H locs ls hP hD hS hL
  have hrv : (xw (fun j => ad (G0.length + j)) kI kJ kQ Gr)[0]? = some (ad (G0.length + 0), .inr (ci, fs.map (xv (fun j => ad (G0.length + j))))) := xw_at (by rw [← xnth_eq]; exact hrc)
  obtain ⟨cellB, g1, g2, g3⟩ := va_recv hKK hP hcv hrv
  rw [hcn] at g3
  refine va_runV (C := y.cls) (b := ad (G0.length + 0)) (As := as.map (xv (fun j => ad (G0.length + j)))) (n := n) (bytes := cb) (maxL := maxL) (ret := ret2) ⟨hx, hb, hml, hown, hts⟩ (hM dC dI (fun j => ad (G0.length + j)) kI kJ kQ H.size) ⟨callB_of n hts (xgood y1) rfl hR.1 hR.2.1 (hts _ y2) (hts _ hlk) ⟨y3, y4, y5⟩ hR.2.2, hts _ hin, hts _ hse⟩ ⟨xblind, ⟨cellB, g1, g2, g3⟩, fun U hU hW => ⟨rfl, by rw [hU], by rw [hU]; exact hP, va_K.moved hW.alike hKK, hD.weaken (fun _ _ _ _ => trivial), hN.warm hW⟩⟩ rfl (by simpa using hn) hL.1 ?_ ?_ hdg ⟨by omega, by omega⟩
  · show (as.reverse ++ .ref G0.length :: rest).map (xv ad) = _
    rw [List.map_append, List.map_reverse, xvs_no has, xvs_no has]
    rfl
  · rw [xcat_sum]
    exact lv_room hrest
end XLAW2
