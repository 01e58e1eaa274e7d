/-! an array of two dimensions, out of the machine's own words: the outer cell, then row by row behind it -/
section YMULTI
variable {p : Program} {l : Launch} {e : Env} {R : Room} {s : State} {m : MethodId} {args : Array Value} {below : List Frame} {meth : Method} {c : Code}
/-- a loop over numbers whose every turn has one end -/
theorem yFor {f : Nat → PUnit → Sem (ForInStep PUnit)} {N : Nat} (I : Nat → State → Prop) (hstep : ∀ i U, i < N → I i U → ∃ U', I (i + 1) U' ∧ ∀ (E : CtlPost) (Q : ForInStep PUnit → Pre) (d : Bool) (acts : List Action), (∀ d' acts', Q (ForInStep.yield PUnit.unit) d' acts' U') → wp (f i PUnit.unit) Q E e d acts U) : ∀ (n i : Nat) (U : State), i + n = N → I i U → ∃ V, I N V ∧ ∀ (E : CtlPost) (Q : PUnit → Pre) (d : Bool) (acts : List Action), (∀ d' acts', Q PUnit.unit d' acts' V) → wp (forIn (List.range' i n) PUnit.unit f) Q E e d acts U
  | 0, i, U, hi, h => ⟨U, by rw [← hi]; exact h, fun E Q d acts hq => by
      simp only [List.range'_zero, List.forIn_nil, wp_pure']
      exact hq d acts⟩
  | n + 1, i, U, hi, h => by
    obtain ⟨U', h1, h2⟩ := hstep i U (by omega) h
    obtain ⟨V, h3, h4⟩ := yFor I hstep n (i + 1) U' (by omega) h1
    refine ⟨V, h3, fun E Q d acts hq => ?_⟩
    rw [List.range'_succ, List.forIn_cons, wp_bind']
    exact h2 E _ d acts fun d' acts' => h4 E Q d' acts' hq
/-- a new array is one more cell -/
theorem yNew {E : CtlPost} {k cc : ClassId} {kl : Class} {ty : FieldType} {n : Nat} {v : Value} {d : Bool} {acts : List Action} {U : State} {Q : Addr → Pre} (hk : U.vm.classes[k]? = some kl) (hkind : kl.kind = .array cc ty) (hl : ¬ n > e.platform.arrayLengthLimit) (hh : ¬ n * componentBytes ty > e.platform.maxHeapBytes) (hv : fits ty v = true) (hd : v.isDefault = true) (h1 : U.heap.size + 1 ≤ e.platform.maxCells) (h2 : U.slotsUsed + n ≤ e.platform.maxSlots) (hq : Q U.heap.size d acts (U.pushCell (arrV k n (fun _ => v)))) : wp (Jvm.newArray k n v) Q E e d acts U := by
  rw [← arrV_new] at hq
  have ha : allocActs (Array.replicate n v) U.heap.size acts = acts := by
    unfold allocActs
    rw [if_pos]
    rw [Array.all_replicate]
    by_cases h0 : n = 0 <;> simp [h0, hd]
  have hf : ∀ (i : Nat) (x : Value), (Array.replicate n v)[i]? = some x → U.fitsSlot k .none i x = true := by
    intro i x hx
    rw [Array.getElem?_replicate] at hx
    by_cases hi : i < n
    · rw [if_pos hi] at hx
      rw [← Option.some.inj hx]
      simp [State.fitsSlot, State.slotType?, hk, hkind, hv]
    · rw [if_neg hi] at hx
      cases hx
  simp only [Jvm.newArray, Jvm.arrayFits, wp_bind', W.ask, W.ite, hl, if_false, wp_pure', W.theClass, hk, hkind, Option.some.injEq, exists_eq_left', hh, W.alloc, W.stop, Array.size_replicate, ha]
  first
    | exact ⟨h1, h2, hf, hq⟩
    | (rw [if_neg (by omega)]; exact ⟨h1, h2, hf, hq⟩)
/-- the outer cell behind i rows -/
def yOut (k : ClassId) (h N i : Nat) : Cell := arrV k N (fun j => va_rf (if j < i then some (h + 1 + j) else none))
theorem yOut_next (k : ClassId) (h N i : Nat) : (yOut k h N i).setSlot i (.ref (h + 1 + i)) = yOut k h N (i + 1) := by
  unfold yOut
  rw [arrV_store]
  refine congrArg (arrV k N) (funext fun j => ?_)
  show (if j = i then Value.ref (h + 1 + i) else va_rf (if j < i then some (h + 1 + j) else none)) = va_rf (if j < i + 1 then some (h + 1 + j) else none)
  rcases Nat.lt_trichotomy j i with h1 | h1 | h1
  · rw [if_neg (show ¬ j = i by omega), if_pos h1, if_pos (show j < i + 1 by omega)]
  · rw [if_pos h1, if_pos (show j < i + 1 by omega), h1]
    rfl
  · rw [if_neg (show ¬ j = i by omega), if_neg (show ¬ j < i by omega), if_neg (show ¬ j < i + 1 by omega)]
theorem yOut_zero (k : ClassId) (h N : Nat) : yOut k h N 0 = arrV k N (fun _ => .null) := by
  unfold yOut
  refine congrArg (arrV k N) (funext fun j => ?_)
  rw [if_neg (Nat.not_lt_zero _)]
  rfl
/-- the heap behind i rows -/
def yRows (kA kC : ClassId) (H : Heap) (N K i : Nat) (V : State) : Prop := V.heap.size = H.size + 1 + i ∧ (∀ q, q < H.size → V.heap[q]? = H[q]?) ∧ V.heap[H.size]? = some (yOut kA H.size N i) ∧ ∀ j, j < i → V.heap[H.size + 1 + j]? = some (arrV kC K (fun _ => .long 0))
theorem yRows.first {kA kC : ClassId} {N K : Nat} (V : State) : yRows kA kC V.heap N K 0 (V.pushCell (yOut kA V.heap.size N 0)) := ⟨by simp, fun q hq => State.heap_pushCell_of_lt _ _ hq, State.heap_pushCell_size _ _, fun j hj => absurd hj (Nat.not_lt_zero j)⟩
theorem yRows.out {kA kC : ClassId} {H : Heap} {N K i : Nat} {V : State} (h : yRows kA kC H N K i V) (x : Cell) : (V.pushCell x).heap[H.size]? = some (yOut kA H.size N i) := by
  have hlt : H.size < V.heap.size := by rw [h.1]; omega
  rw [State.heap_pushCell_of_lt _ _ hlt]
  exact h.2.2.1
theorem yRows.next {kA kC : ClassId} {H : Heap} {N K i : Nat} {V : State} (h : yRows kA kC H N K i V) : yRows kA kC H N K (i + 1) ((V.pushCell (arrV kC K (fun _ => .long 0))).setCell H.size ((yOut kA H.size N i).setSlot i (.ref (H.size + 1 + i)))) := by
  have ho := h.out (arrV kC K (fun _ => .long 0))
  obtain ⟨h1, h2, h3, h4⟩ := h
  refine ⟨?_, fun q hq => ?_, ?_, fun j hj => ?_⟩
  · simp [State.setCell, h1]
    omega
  · rw [State.heap_setCell_other (show H.size ≠ q by omega), State.heap_pushCell_of_lt _ _ (show q < V.heap.size by omega)]
    exact h2 q hq
  · rw [State.heap_setCell_self ho, yOut_next]
  · rw [State.heap_setCell_other (show H.size ≠ H.size + 1 + j by omega)]
    by_cases h5 : j < i
    · rw [State.heap_pushCell_of_lt _ _ (show H.size + 1 + j < V.heap.size by omega)]
      exact h4 j h5
    · have e1 : H.size + 1 + j = V.heap.size := by omega
      rw [e1]
      exact State.heap_pushCell_size _ _
/-- long[N][K] is made -/
theorem yMulti {T : State} {locs : List Loc} {cells slots : Nat} (X : Stand p l e R s m args below meth c T locs cells slots) (hexec : p.tables.exec = Jvm.exec) {own : String} {index : Nat} {kA kC : ClassId} {clA : Class} (hown : s.vm.findClass own = some m.cls) (hcl : (Cond.classLink own index ("[" ++ (FieldType.array .long).toString)).before args s = true) (hfA : s.vm.findClass ("[" ++ (FieldType.array .long).toString) = some kA) (hA : s.vm.classes[kA]? = some clA) (hAk : clA.kind = .array kC (.array .long)) (hfC : s.vm.findClass (FieldType.array .long).toString = some kC) (harr : (Cond.arrayClass .long).before args s = true) {g : JFrame} (hg : g.method = m) (hdg : decode c.code g.pc = .ok (.multianewarray index 2, 4)) {n k : Int32} {rest : List Value} (hst : g.stack = .int k :: .int n :: rest) (hn : ¬ n < 0) (hk : ¬ k < 0) (hb1 : n.toNatClampNeg * 4 ≤ 536870912) (hb2 : k.toNatClampNeg * componentBytes .long ≤ 536870912) (hb3 : k.toNatClampNeg ≤ 536870912) (hcells : cells + (1 + n.toNatClampNeg) ≤ R.cells) (hslots : slots + (n.toNatClampNeg + n.toNatClampNeg * k.toNatClampNeg) ≤ R.slots) :
    ∃ V, Stand p l e R s m args below meth c V locs (cells + 1 + n.toNatClampNeg) (slots + n.toNatClampNeg + n.toNatClampNeg * k.toNatClampNeg) ∧ yRows kA kC T.heap n.toNatClampNeg k.toNatClampNeg n.toNatClampNeg V ∧ ∀ t, Steps p.tables e below (V.setTop { g with pc := g.pc + 4, stack := .ref T.heap.size :: rest }) t → Steps p.tables e below (T.setTop g) t := by
  subst hg
  have hpl : e.platform.magicAccessors = ({} : Platform).magicAccessors := by rw [X.admits.platform]
  obtain ⟨kC', clC, cc, hfC', hC, hCk⟩ := Cond.arrayClass_spec harr
  have e1 : kC' = kC := Option.some.inj (hfC'.symm.trans hfC)
  subst e1
  obtain ⟨k0, hf0, hlk⟩ := Cond.classLink_spec hown hcl e.platform hpl
  have e2 : k0 = kA := Option.some.inj (hf0.symm.trans hfA)
  subst e2
  obtain ⟨hgi, hw, -⟩ := State.classEntry (e := e) X.warmed hlk
  generalize T.vm.noted g.method.cls index (.cls k0) = vm1 at hgi hw
  obtain ⟨dA, hA1, eA⟩ := hw.alike.2.2 _ _ hA
  obtain ⟨dC, hC1, eC⟩ := hw.alike.2.2 _ _ hC
  have hAk1 : dA.kind = .array kC' (.array .long) := by rw [eA]; exact hAk
  have hCk1 : dC.kind = .array cc .long := by rw [eC]; exact hCk
  have X1 := (X.noted hw).pushed (yOut k0 T.heap.size n.toNatClampNeg 0)
  rw [show (yOut k0 T.heap.size n.toNatClampNeg 0).slots.size = n.toNatClampNeg from arrV_size _ _ _] at X1
  have lim : ∀ a b : Nat, a ≤ 536870912 → a * b ≤ 536870912 → ¬ a > e.platform.arrayLengthLimit ∧ ¬ a * b > e.platform.maxHeapBytes := fun a b h1 h2 => by
    rw [Launch.admits_arrayLengthLimit X.admits, Launch.admits_maxHeapBytes X.admits]
    omega
  obtain ⟨l1, l2⟩ := lim n.toNatClampNeg (componentBytes (.array .long)) (by omega) hb1
  obtain ⟨l3, l4⟩ := lim k.toNatClampNeg (componentBytes .long) hb3 hb2
  have hgrown := X.heapGrown
  obtain ⟨V9, ⟨V, rfl, XV, -, hR⟩, go⟩ := yFor (e := e) (N := n.toNatClampNeg) (f := fun i _ => (multianewarray.make kC' [k] >>= fun a => (Jvm.writeLoc T.heap.size i (.ref a) >>= fun _ => Pure.pure (ForInStep.yield PUnit.unit))))
    (fun i U => ∃ V, U = V.setTop { g with stack := rest } ∧ Stand p l e R s g.method args below meth c V locs (cells + 1 + i) (slots + n.toNatClampNeg + i * k.toNatClampNeg) ∧ V.vm = vm1 ∧ yRows k0 kC' T.heap n.toNatClampNeg k.toNatClampNeg i V)
    (fun i U hi ⟨V, hU, XV, hvm, hR⟩ => by
      subst hU
      have hmul : (i + 1) * k.toNatClampNeg ≤ n.toNatClampNeg * k.toNatClampNeg := Nat.mul_le_mul_right _ hi
      rw [Nat.succ_mul] at hmul
      obtain ⟨r1, r2⟩ := XV.roomAbove (a := 1) (b := k.toNatClampNeg) (by omega) (by omega)
      have X2 := ((XV.pushed (arrV kC' k.toNatClampNeg (fun _ => .long 0))).stored (hR.out _) i (.ref (T.heap.size + 1 + i))).dropFresh (fun x hx => by
        rw [List.mem_singleton.mp hx]
        exact hgrown)
      rw [arrV_size] at X2
      refine ⟨_, ⟨(V.pushCell (arrV kC' k.toNatClampNeg (fun _ => .long 0))).setCell T.heap.size ((yOut k0 T.heap.size n.toNatClampNeg i).setSlot i (.ref (T.heap.size + 1 + i))), rfl, by rw [Nat.succ_mul, ← Nat.add_assoc, ← Nat.add_assoc]; exact X2, hvm, hR.next⟩, fun E Q d acts hq => ?_⟩
      have hC2 : (V.setTop { g with stack := rest }).vm.classes[kC']? = some dC := by
        show V.vm.classes[kC']? = some dC
        rw [hvm]
        exact hC1
      rw [wp_bind', multianewarray.make]
      simp only [wp_bind', W.ite, hk, if_false, wp_pure', W.theClass, hC2, hCk1, Option.some.injEq, exists_eq_left']
      refine yNew hC2 hCk1 l3 l4 rfl rfl r1 r2 ?_
      simp only [wp_bind', W.writeLoc, wp_pure']
      refine ⟨yOut k0 T.heap.size n.toNatClampNeg i, hR.out _, by simp [yOut, arrV], by rw [show (yOut k0 T.heap.size n.toNatClampNeg i).slots.size = n.toNatClampNeg from arrV_size _ _ _]; exact hi, ?_, ?_⟩
      · have hA2 : V.vm.classes[k0]? = some dA := by rw [hvm]; exact hA1
        simp [State.fitsSlot, State.slotType?, yOut, arrV, hA2, hAk1, fits]
      · have e3 : (V.setTop { g with stack := rest }).heap.size = T.heap.size + 1 + i := hR.1
        rw [e3]
        exact hq _ _)
    n.toNatClampNeg 0 _ (Nat.zero_add _) ⟨(T.setVm vm1).pushCell (yOut k0 T.heap.size n.toNatClampNeg 0), rfl, by rw [Nat.zero_mul]; exact X1, rfl, yRows.first (T.setVm vm1)⟩
  refine ⟨V, XV, hR, fun t ht => ?_⟩
  obtain ⟨r1, r2⟩ := X.roomAbove (a := 1) (b := n.toNatClampNeg) (by omega) (by omega)
  jvm_step X.here [hexec, hdg]
  simp only [multianewarray.sem, wp_bind', W.resolveClassAt_links (State.method?_setTop g X.here.top) hgi]
  rw [W.popN, if_neg (by decide)]
  refine ⟨g, State.topJava?_setTop' (s := T.setVm vm1) g X.here.top, [.int n, .int k], rest, rfl, hst, ?_⟩
  simp only [List.mapM_cons, List.mapM_nil, wp_bind', wp_pure']
  rw [show ((T.setTop g).setVm vm1).setTop { g with stack := rest } = (T.setVm vm1).setTop { g with stack := rest } from State.setTop_setTop (s := T.setVm vm1) _ _]
  have hA3 : ((T.setVm vm1).setTop { g with stack := rest }).vm.classes[k0]? = some dA := hA1
  rw [multianewarray.make]
  simp only [wp_bind', W.ite, hn, if_false, wp_pure', W.theClass, hA3, hAk1, Option.some.injEq, exists_eq_left']
  refine yNew hA3 hAk1 l1 l2 rfl rfl r1 r2 ?_
  rw [← yOut_zero k0 T.heap.size]
  have hnone : ([k].find? (fun x => decide (x < 0))) = none := by simp [hk]
  simp only [hnone, ite_self]
  rw [wp_bind', Std.Legacy.Range.forIn_eq_forIn_range']
  have hsz : ([:n.toNatClampNeg] : Std.Legacy.Range).size = n.toNatClampNeg := by simp [Std.Legacy.Range.size]
  rw [hsz]
  refine go _ _ _ _ fun d' acts' => ?_
  simp only [wp_bind', wp_pure', W.mark, W.pushRef, State.topJava?_setTop' _ XV.here.top, Option.some.injEq, exists_eq_left', State.setTop_setTop, State.heap_setTop]
  intro acts9
  simp [jvm, XV.here.top]
  exact ht
end YMULTI
