/-! a call that has more than 8 words below its arguments -/
theorem xrunW {p : Program} {l : Launch} {e : Env} {R : Room} {s : State} {m : MethodId} {args : Array Value} {below : List Frame} {meth : Method} {c : Code} {H : Heap} {locs : List Loc} {cells slots : Nat} {y : MethodName} {bytes cc : ByteArray} {maxL nL mc ms n index : Nat} {ret : Option FieldType} {ws : List Cond} {rm : Room} {Pc : Array Value → State → Prop} {Qc : Array Value → State → Outcome → State → Prop} {free : Addr → Prop} {Ts : List Cond} {own C : String} {b : Addr} {As rest : List Value} {g : JFrame} (W : Nat)
    (S : CallFix p m c cc nL s args Ts own) (hM : Met l y ws rm Pc Qc mc ms free) (cw : CallW R s args own C index y bytes maxL ret ws rm mc ms n) (hlo : W + (maxL + 11) + rm.locals ≤ R.locals) (hp : PreV s H C b Pc As)
    (hg : g.method = m) (hn : As.length = n) (hsize : g.locals.size = nL) (hstack : g.stack = As.reverse ++ .ref b :: rest) (hW : 2 * g.monitorRoom + (rest.map fun v => v.category).sum ≤ W) (hdg : decode cc g.pc = .ok (.invokevirtual index, 3)) (hf : cells + mc ≤ R.cells ∧ slots + ms ≤ R.slots) :
    va_Run p l e R s m args below meth c H locs cells slots mc ms g rest (Qc (Value.ref b :: As).toArray) free := by
  obtain ⟨⟨hrc, hrs, hfr, -, hws, hcw, hcode, hini, hy, hlen, hl⟩, hin, hse⟩ := cw
  have hK : Back l R p e below s args y 3 W (PreOf R mc ms Pc) (PostOf Qc mc ms free) := back_of (bytes := bytes) (maxL := maxL) (ret := ret) hM hp.1 hrc hrs hfr hlo hws hcw (fun a' U hW => word_at hW (Or.inl (by first | rfl | simp [Cond.onTables, Cond.keeps, Cond.steady])) hini)
  obtain ⟨hx, hb, hml, ho, -⟩ := S
  obtain ⟨-, ⟨cellB, hcB, hoB, hclB⟩, hPc⟩ := hp
  intro T hT X
  obtain ⟨v, vm₁, ⟨U', l2, c2, s2⟩, hW₁, X', ⟨g', mk, t, L, e1, e2, hq, h1, hL, h2, h3⟩, st⟩ := callV X hx (C := C) (bytes := bytes) (maxL := maxL) (ret := ret) ho hl hin hse hcode hy hK (by rw [hT]; exact hcB) hoB hclB hg (hsize.trans hml.symm) (argsL := As) (rest := rest) (fun sig h => hn.trans (hlen sig h)) hstack hW (by rw [hb]; exact hdg) (fun vm₁ hW₁ => ⟨hf.1, hf.2, hPc (T.setVm vm₁) hT hW₁⟩)
  dsimp only [Pt.U, Pt.locs, Pt.cells, Pt.slots] at X' e1 e2 h1 h2 h3 st
  subst h1; subst h2; subst h3
  exact ⟨v, (T.setVm vm₁).calling g' mk (Value.ref b :: As).toArray, t, U', L, hT, X', hL, e1, e2, hq, st⟩
theorem xR.callV0W {l : Launch} {own : String} {cc : ByteArray} {R : Room} {ret : Option FieldType} {post : Option Value → List xE → Prop} {nL : Nat} {X : Nat → List (Option Value) → List Value → List xE → Prop} (h : xR l own cc R ret post nL X) (W : Nat) (hW8 : 8 ≤ W) {idx : Nat} {y : MethodName} {cb : ByteArray} {maxL n : Nat} {ret2 : Option FieldType} {rm : Room} {j0 : Nat} {as : List Value} {post2 : Option Value → List xE → Prop} {rest : List Value} {pc : Nat} {lv : List (Option Value)} {st : List Value} {G : List xE} {ci : Nat} {fs : List Value} {cv : vw_C}
    (hM : xM l y cb maxL ret2 rm (.ref j0 :: as) G post2) (hY : xY y cb maxL ret2 n) (hlk : Cond.methodLink own idx y ∈ xT) (hin : Cond.instanceMethod y ∈ xT) (hse : Cond.selects y.cls y y ∈ xT)
    (hR : rm.cells = 0 ∧ rm.slots = 0 ∧ rm.frames + 1 ≤ R.frames ∧ W + (maxL + 11) + rm.locals ≤ R.locals) (hdg : decode cc pc = .ok (.invokevirtual idx, 3)) (hn : as.length = n)
    (hst : st = (Value.ref j0 :: as).reverse ++ rest) (hrest : (rest.map fun v => v.category).sum ≤ W)
    (hrc : xnth G j0 = some (.inr (ci, fs))) (hcv : vwCl[ci]? = some cv) (hcn : cv.1 = y.cls)
    (hlen : ∀ r G1, post2 r G1 → G1.length = G.length)
    (kk : ∀ r G1, post2 r G1 → X (pc + 3) lv (r.toList ++ rest) G1) : X pc lv st G := by
  obtain ⟨p, e, s, m, args, below, meth, c, Q, dC, dI, ad, kI, kJ, kQ, A, H0, cells, slots, rfl, ⟨hx, hb, hml, hown, hts, hKK, hN⟩, hA, ⟨hcl, hsl⟩, -⟩ := h
  obtain ⟨y1, y2, y3, y4, y5⟩ := hY
  refine xW_call0 (av := (Value.ref (ad j0) :: as.map (xv ad)).toArray) hA hlen ?_ kk
  intro H locs ls hP hD hS hL
  have hrv : (xw ad kI kJ kQ G)[j0]? = some (ad j0, .inr (ci, fs.map (xv ad))) := xw_at (by rw [← xnth_eq]; exact hrc)
  obtain ⟨cellB, g1, g2, g3⟩ := va_recv hKK hP hcv hrv
  rw [hcn] at g3
  refine xrunW W (C := y.cls) (b := ad j0) (As := as.map (xv ad)) (n := n) (bytes := cb) (maxL := maxL) (ret := ret2) ⟨hx, hb, hml, hown, hts⟩ (hM dC dI ad kI kJ kQ H.size) ⟨callB_of n hts (xgood y1) rfl hR.1 hR.2.1 (hts _ y2) (hts _ hlk) ⟨y3, y4, y5⟩ ⟨hR.2.2.1, by have := hR.2.2.2; omega⟩, hts _ hin, hts _ hse⟩ hR.2.2.2 ⟨xblind, ⟨cellB, g1, g2, g3⟩, fun U hU hW => ⟨rfl, by rw [hU], by rw [hU]; exact hP, va_K.moved hW.alike hKK, hD.weaken (fun _ _ _ _ => trivial), hN.warm hW⟩⟩ rfl (by simpa using hn) hL.1 ?_ ?_ hdg ⟨by omega, by omega⟩
  · show st.map (xv ad) = _
    rw [hst]
    simp [xv]
  · rw [xcat_sum]
    show 2 * 0 + _ ≤ W
    omega
