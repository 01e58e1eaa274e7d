/-! the executor is sound -/
theorem xsf.tail {cc : ByteArray} {i : xI} {cs : List xI} (h : xsf cc (i :: cs)) : xsf cc cs := by
  obtain ⟨h1, h2⟩ := h
  obtain ⟨pc, ins, len⟩ := i
  unfold xwf at h1
  simp only [Bool.and_eq_true] at h1
  simp only [List.all_cons, Bool.and_eq_true] at h2
  exact ⟨h1.2, h2.2⟩
theorem xsf.dec {cc : ByteArray} {pc len : Nat} {ins : Instr} {cs : List xI} (h : xsf cc ((pc, ins, len) :: cs)) : decode cc pc = .ok (ins, len) := by
  obtain ⟨h1, h2⟩ := h
  unfold xwf at h1
  simp only [Bool.and_eq_true, decide_eq_true_eq] at h1
  exact h1.1.1
theorem xsf.len {cc : ByteArray} {pc len : Nat} {ins : Instr} {cs : List xI} (h : xsf cc ((pc, ins, len) :: cs)) : xlok (pc, ins, len) = true := by
  obtain ⟨h1, h2⟩ := h
  simp only [List.all_cons, Bool.and_eq_true] at h2
  exact h2.1
theorem xsf.next {cc : ByteArray} {pc len : Nat} {ins : Instr} {i : xI} {cs : List xI} (h : xsf cc ((pc, ins, len) :: i :: cs)) : i.1 = pc + len := by
  obtain ⟨h1, h2⟩ := h
  unfold xwf at h1
  simp only [Bool.and_eq_true, decide_eq_true_eq] at h1
  exact h1.1.2
theorem xsf.jmp {cc : ByteArray} {t : Int} : ∀ (cs : List xI), xsf cc cs → xsf cc (xjmp cs t) ∧ ∀ i r, xjmp cs t = i :: r → (i.1 : Int) = t
  | [], h => ⟨h, fun i r h => by simp [xjmp] at h⟩
  | i :: cs, h => by
    unfold xjmp
    by_cases hd : (i.1 : Int) = t
    · simp only [hd, decide_true, cond_true]
      exact ⟨h, fun i' r h' => by cases h'; exact hd⟩
    · simp only [hd, decide_false, cond_false]
      exact xsf.jmp cs h.tail
theorem xcmp_of {d : Bool} {cnd : ClassFile.Cond} {x y : Int32} {A B : Prop} (h : xcmp d cnd x y A B) : (match cnd with
    | .eq => (x = y → A) ∧ (¬ x = y → B)
    | .ne => (¬ x = y → A) ∧ (x = y → B)
    | .lt => (x < y → A) ∧ (¬ x < y → B)
    | .ge => (y ≤ x → A) ∧ (¬ y ≤ x → B)
    | .gt => (y < x → A) ∧ (¬ y < x → B)
    | .le => (x ≤ y → A) ∧ (¬ x ≤ y → B)) := by
  cases d with
  | true => cases cnd <;> simp only [xcmp] at h <;> refine ⟨fun q => ?_, fun q => ?_⟩ <;> simpa [q] using h
  | false => cases cnd <;> simp only [xcmp] at h <;> first | exact h | exact ⟨h.2, h.1⟩
theorem xpick_of {A : Nat → Prop} {n : Nat} : ∀ {l : List Nat}, xpick l n A → A n
  | [], h => h
  | b :: t, h => by
    unfold xpick at h
    cases hb : Nat.beq b n with
    | true => rw [hb] at h; rw [← Nat.eq_of_beq_eq_true hb]; exact h
    | false => rw [hb] at h; exact xpick_of (l := t) h
theorem xidx_of {d : Bool} {i : Int32} {n : Nat} {A : Nat → Prop} (h : xidx d i n A) : xin i n = true ∧ A i.toNatClampNeg := by
  cases d with
  | true =>
    obtain ⟨j, rfl, h1, h2, h3⟩ := h
    have hc := nI_clamp (n := j) (by omega)
    rw [hc]
    refine ⟨?_, h3⟩
    unfold xin
    rw [hc]
    simp [nI_pos (n := j) (by omega), h1]
  | false =>
    unfold xidx at h
    cases hi : xin i n with
    | false => rw [hi] at h; exact h.elim
    | true => rw [hi] at h; exact ⟨rfl, xpick_of h⟩
section XSND
variable {p : Program} {l : Launch} {e : Env} {R : Room} {s : State} {m : MethodId} {args : Array Value} {below : List Frame} {meth : Method} {c : Code} {Q : State → Prop} {dC : Nat → ClassId} {dI : Nat → Nat → Nat} {ad : Nat → Nat} {kI kJ kQ : ClassId} {A : Nat → Prop} {H0 : Heap} {nL cells slots : Nat} {own : String} {cc : ByteArray}
/-- the machine at the head of a suffix -/
def xWs (p : Program) (l : Launch) (e : Env) (R : Room) (s : State) (m : MethodId) (args : Array Value) (below : List Frame) (meth : Method) (c : Code) (Q : State → Prop) (dC : Nat → ClassId) (dI : Nat → Nat → Nat) (ad : Nat → Nat) (kI kJ kQ : ClassId) (A : Nat → Prop) (H0 : Heap) (nL cells slots : Nat) (cs : List xI) (lv : List (Option Value)) (st : List Value) (G : List xE) : Prop :=
  ∃ i r, cs = i :: r ∧ xW p l e R s m args below meth c Q dC dI ad kI kJ kQ A H0 nL cells slots i.1 lv st G
/-- a call that the run knows: from behind it to before it -/
def xHk (p : Program) (l : Launch) (e : Env) (R : Room) (s : State) (m : MethodId) (args : Array Value) (below : List Frame) (meth : Method) (c : Code) (Q : State → Prop) (dC : Nat → ClassId) (dI : Nat → Nat → Nat) (ad : Nat → Nat) (kI kJ kQ : ClassId) (A : Nat → Prop) (H0 : Heap) (nL cells slots : Nat) (cc : ByteArray) (q : Nat × xH) : Prop :=
  ∀ (pc : Nat) (lv : List (Option Value)) (st : List Value) (G : List xE) (K : List Value → List xE → Prop) (ix : Nat), ((q.1 = 2 * ix ∧ decode cc pc = .ok (.invokevirtual ix, 3)) ∨ (q.1 = 2 * ix + 1 ∧ decode cc pc = .ok (.invokestatic ix, 3))) →
    (∀ st G, K st G → xW p l e R s m args below meth c Q dC dI ad kI kJ kQ A H0 nL cells slots (pc + 3) lv st G) → q.2 st G K → xW p l e R s m args below meth c Q dC dI ad kI kJ kQ A H0 nL cells slots pc lv st G
theorem xW_load {pc n : Nat} {lv : List (Option Value)} {st : List Value} {G : List xE} {i : Nat} {v : Value} (h : xnth lv i = some (some v))
    (k : ∀ (H : Heap) (locs : List Loc) (ls : Array Slot), ls[i]? = some (.val (xv ad v)) → W p l e R s m args below meth c H locs cells slots Q (F0 m (pc + n) ls (xv ad v :: st.map (xv ad))) → W p l e R s m args below meth c H locs cells slots Q (F0 m pc ls (st.map (xv ad))))
    (hn : xW p l e R s m args below meth c Q dC dI ad kI kJ kQ A H0 nL cells slots (pc + n) lv (v :: st) G) : xW p l e R s m args below meth c Q dC dI ad kI kJ kQ A H0 nL cells slots pc lv st G := by
  intro H locs ls hP hD hS hL
  rw [xnth_eq] at h
  exact k H locs ls (hL.2.2.2 i v h) (hn H locs ls hP hD hS hL)
theorem xW_store1 {pc n : Nat} {lv : List (Option Value)} {st st2 : List Value} {G : List xE} {i : Nat} {v : Value} {K : List (Option Value) → Prop} (hc : v.category = 1)
    (h : xst v lv i K)
    (k : ∀ (H : Heap) (locs : List Loc) (ls : Array Slot), lv_has ls nL (xlp ad lv) → i < nL → (∀ ls' : Array Slot, lv_has ls' nL ((i, xv ad v) :: (xlp ad lv).filter (fun q => !(q.1 == i) && !(q.1 + 1 == i && q.2.category == 2))) → W p l e R s m args below meth c H locs cells slots Q (F0 m (pc + n) ls' (st.map (xv ad)))) → W p l e R s m args below meth c H locs cells slots Q (F0 m pc ls (st2.map (xv ad))))
    (hn : ∀ lv', K lv' → xW p l e R s m args below meth c Q dC dI ad kI kJ kQ A H0 nL cells slots (pc + n) lv' st G) : xW p l e R s m args below meth c Q dC dI ad kI kJ kQ A H0 nL cells slots pc lv st2 G := by
  intro H locs ls hP hD hS hL
  obtain ⟨lv', h1, h2⟩ := xst_ok v lv i K h
  refine k H locs ls hL.has (by have := h2.2.1; have := hL.2.2.1; omega) (fun ls' h9 => ?_)
  exact hn lv' h1 H locs ls' hP hD hS (xL_put1 hc h2 hL.2.2.1 h9)
theorem xW_store2 {pc n : Nat} {lv : List (Option Value)} {st st2 : List Value} {G : List xE} {i : Nat} {v : Value} {K : List (Option Value) → Prop} (hc : v.category = 2)
    (h : xst v lv i K)
    (k : ∀ (H : Heap) (locs : List Loc) (ls : Array Slot), lv_has ls nL (xlp ad lv) → i + 1 < nL → (∀ ls' : Array Slot, lv_has ls' nL ((i, xv ad v) :: (xlp ad lv).filter (fun q => !(q.1 == i) && (!(q.1 == i + 1) && !(q.1 + 1 == i && q.2.category == 2)))) → W p l e R s m args below meth c H locs cells slots Q (F0 m (pc + n) ls' (st.map (xv ad)))) → W p l e R s m args below meth c H locs cells slots Q (F0 m pc ls (st2.map (xv ad))))
    (hn : ∀ lv', K lv' → xW p l e R s m args below meth c Q dC dI ad kI kJ kQ A H0 nL cells slots (pc + n) lv' st G) : xW p l e R s m args below meth c Q dC dI ad kI kJ kQ A H0 nL cells slots pc lv st2 G := by
  intro H locs ls hP hD hS hL
  obtain ⟨lv', h1, h2⟩ := xst_ok v lv i K h
  refine k H locs ls hL.has (by have := h2.2.2.1 hc; have := hL.2.2.1; omega) (fun ls' h9 => ?_)
  exact hn lv' h1 H locs ls' hP hD hS (xL_put2 hc h2 hL.2.2.1 h9)
set_option maxHeartbeats 4000000 in
theorem xstep_ok {code : List xI} {ft : List xF} {ct : List (Nat × Int64)} {oc : List (Nat × xH)} {ret : Option FieldType} {post : Option Value → List xE → Prop} {db sb : List Nat} {K : Nat → List (Option Value) → List Value → List xE → Prop} {go : List xI → List (Option Value) → List Value → List xE → Prop} {pc len : Nat} {ins : Instr} {cs : List xI} {lv : List (Option Value)} {st : List Value} {G : List xE}
    (hS : xS p s m args c dC dI kI kJ kQ own cc nL) (hft : ∀ q ∈ ft, xFok own q) (hct : ∀ q ∈ ct, Cond.constantLong own q.1 q.2 ∈ xT) (hoc : ∀ q ∈ oc, xHk p l e R s m args below meth c Q dC dI ad kI kJ kQ A H0 nL cells slots cc q)
    (hcode : xsf cc code) (hcs : xsf cc ((pc, ins, len) :: cs)) (hgo : ∀ cs lv st G, xsf cc cs → go cs lv st G → xWs p l e R s m args below meth c Q dC dI ad kI kJ kQ A H0 nL cells slots cs lv st G)
    (hK : ∀ pc lv st G, K pc lv st G → xW p l e R s m args below meth c Q dC dI ad kI kJ kQ A H0 nL cells slots pc lv st G)
    (hI : ∀ pc lv x G, decode cc pc = .ok (.ireturn, 1) → xnar ret x = true → post (some (.int x)) G → xW p l e R s m args below meth c Q dC dI ad kI kJ kQ A H0 nL cells slots pc lv [.int x] G)
    (hJ : ∀ pc lv x G, decode cc pc = .ok (.lreturn, 1) → ret = some .long → post (some (.long x)) G → xW p l e R s m args below meth c Q dC dI ad kI kJ kQ A H0 nL cells slots pc lv [.long x] G)
    (hV : ∀ pc lv G, decode cc pc = .ok (.return_, 1) → ret = none → post none G → xW p l e R s m args below meth c Q dC dI ad kI kJ kQ A H0 nL cells slots pc lv [] G)
    (h : xstep code ft ct oc ret post db sb K go pc ins cs lv st G) : xW p l e R s m args below meth c Q dC dI ad kI kJ kQ A H0 nL cells slots pc lv st G := by
  obtain ⟨hx, hb, hml, hown, hts, hKK, hN⟩ := hS
  have hdg := hcs.dec
  have hlen := hcs.len
  have hnx : ∀ lv st G, go cs lv st G → xW p l e R s m args below meth c Q dC dI ad kI kJ kQ A H0 nL cells slots (pc + len) lv st G := by
    intro lv st G hg
    obtain ⟨i, r, rfl, h2⟩ := hgo cs lv st G hcs.tail hg
    rw [← hcs.next]
    exact h2
  have hto : ∀ (t : Int) lv r G, xto code t (fun t => K t lv r G) (fun cs => go cs lv r G) → xW p l e R s m args below meth c Q dC dI ad kI kJ kQ A H0 nL cells slots t.toNat lv r G := by
    intro t lv r G hg
    unfold xto at hg
    obtain ⟨j1, j2⟩ := xsf.jmp (t := t) code hcode
    split at hg
    next hj =>
      by_cases hd : ((t.toNat : Nat) : Int) = t
      · simp only [hd, decide_true, cond_true] at hg
        exact hK _ _ _ _ hg
      · simp only [hd, decide_false, cond_false] at hg
    next i cs2 hj =>
      rw [hj] at j1 j2
      obtain ⟨i2, r2, e2, h2⟩ := hgo _ lv r G j1 hg
      cases e2
      have h3 := j2 i cs2 rfl
      rw [show t.toNat = i.1 by omega]
      exact h2
  cases ins
  case iconst i =>
    have hl : len = 1 := Nat.eq_of_beq_eq_true hlen
    subst hl
    intro H locs ls hP hD hS2 hL
    exact lv_iconst hx hb hdg rfl (hnx _ _ _ h H locs ls hP hD hS2 hL)
  case bipush i =>
    have hl : len = 2 := Nat.eq_of_beq_eq_true hlen
    subst hl
    intro H locs ls hP hD hS2 hL
    exact lv_bipush hx hb hdg rfl (hnx _ _ _ h H locs ls hP hD hS2 hL)
  case sipush i =>
    have hl : len = 3 := Nat.eq_of_beq_eq_true hlen
    subst hl
    intro H locs ls hP hD hS2 hL
    exact lv_sipush hx hb hdg rfl (hnx _ _ _ h H locs ls hP hD hS2 hL)
  case lconst i =>
    have hl : len = 1 := Nat.eq_of_beq_eq_true hlen
    subst hl
    intro H locs ls hP hD hS2 hL
    exact lv_lconst hx hb hdg rfl (hnx _ _ _ h H locs ls hP hD hS2 hL)
  case ldc2_w ix =>
    have hl : len = 3 := Nat.eq_of_beq_eq_true hlen
    subst hl
    simp only [xstep] at h
    split at h
    next v hv =>
      intro H locs ls hP hD hS2 hL
      exact lv_ldc2 hx hb hown (hts _ (hct _ (xfind_mem _ _ _ hv))) hdg (hnx _ _ _ h H locs ls hP hD hS2 hL)
    next => exact h.elim
  case iload i =>
    have hl : len = 2 := Nat.eq_of_beq_eq_true hlen
    subst hl
    simp only [xstep, xldi] at h
    split at h
    next x hv => exact xW_load hv (fun H locs ls h1 k => lv_iload hx hb hdg h1 k) (hnx _ _ _ h)
    next => exact h.elim
  case iload_n i =>
    have hl : len = 1 := Nat.eq_of_beq_eq_true hlen
    subst hl
    simp only [xstep, xldi] at h
    split at h
    next x hv => exact xW_load hv (fun H locs ls h1 k => lv_iload_n hx hb hdg rfl h1 k) (hnx _ _ _ h)
    next => exact h.elim
  case lload i =>
    have hl : len = 2 := Nat.eq_of_beq_eq_true hlen
    subst hl
    simp only [xstep, xldl] at h
    split at h
    next x hv => exact xW_load hv (fun H locs ls h1 k => lv_lload hx hb hdg h1 k) (hnx _ _ _ h)
    next => exact h.elim
  case lload_n i =>
    have hl : len = 1 := Nat.eq_of_beq_eq_true hlen
    subst hl
    simp only [xstep, xldl] at h
    split at h
    next x hv => exact xW_load hv (fun H locs ls h1 k => lv_lload_n hx hb hdg rfl h1 k) (hnx _ _ _ h)
    next => exact h.elim
  case aload i =>
    have hl : len = 2 := Nat.eq_of_beq_eq_true hlen
    subst hl
    simp only [xstep, xlda] at h
    split at h
    next x hv => exact xW_load hv (fun H locs ls h1 k => lv_aload hx hb hdg h1 k) (hnx _ _ _ h)
    next => exact h.elim
  case aload_n i =>
    have hl : len = 1 := Nat.eq_of_beq_eq_true hlen
    subst hl
    simp only [xstep, xlda] at h
    split at h
    next x hv => exact xW_load hv (fun H locs ls h1 k => lv_aload_n hx hb hdg rfl h1 k) (hnx _ _ _ h)
    next => exact h.elim
  case istore i =>
    have hl : len = 2 := Nat.eq_of_beq_eq_true hlen
    subst hl
    simp only [xstep] at h
    split at h
    next x r => exact xW_store1 rfl h (fun H locs ls h1 h2 k => lv_istore hx hb hdg h1 h2 rfl k) (fun lv' h => hnx _ _ _ h)
    next => exact h.elim
  case istore_n i =>
    have hl : len = 1 := Nat.eq_of_beq_eq_true hlen
    subst hl
    simp only [xstep] at h
    split at h
    next x r => exact xW_store1 rfl h (fun H locs ls h1 h2 k => lv_istore_n hx hb hdg rfl h1 h2 rfl k) (fun lv' h => hnx _ _ _ h)
    next => exact h.elim
  case lstore i =>
    have hl : len = 2 := Nat.eq_of_beq_eq_true hlen
    subst hl
    simp only [xstep] at h
    split at h
    next x r => exact xW_store2 rfl h (fun H locs ls h1 h2 k => lv_lstore hx hb hdg h1 h2 rfl k) (fun lv' h => hnx _ _ _ h)
    next => exact h.elim
  case lstore_n i =>
    have hl : len = 1 := Nat.eq_of_beq_eq_true hlen
    subst hl
    simp only [xstep] at h
    split at h
    next x r => exact xW_store2 rfl h (fun H locs ls h1 h2 k => lv_lstore_n hx hb hdg rfl h1 h2 rfl k) (fun lv' h => hnx _ _ _ h)
    next => exact h.elim
  case astore i =>
    have hl : len = 2 := Nat.eq_of_beq_eq_true hlen
    subst hl
    simp only [xstep] at h
    split at h
    next x r => exact xW_store1 rfl h (fun H locs ls h1 h2 k => lv_astore hx hb hdg h1 h2 rfl k) (fun lv' h => hnx _ _ _ h)
    next => exact h.elim
  case astore_n i =>
    have hl : len = 1 := Nat.eq_of_beq_eq_true hlen
    subst hl
    simp only [xstep] at h
    split at h
    next x r => exact xW_store1 rfl h (fun H locs ls h1 h2 k => lv_astore_n hx hb hdg rfl h1 h2 rfl k) (fun lv' h => hnx _ _ _ h)
    next => exact h.elim
  case iinc i n =>
    have hl : len = 3 := Nat.eq_of_beq_eq_true hlen
    subst hl
    simp only [xstep, xldi] at h
    split at h
    next x hv =>
      refine xW_store1 rfl h (fun H locs ls h1 h2 k => ?_) (fun lv' h => hnx _ _ _ h)
      have hm : (i, Value.int x) ∈ xlp ad lv := xlp_mem.mpr ⟨.int x, by rw [← xnth_eq]; exact hv, rfl⟩
      obtain ⟨q, hq⟩ := List.getElem?_of_mem hm
      exact lv_iinc hx hb hdg h1 hq rfl h2 rfl k
    next => exact h.elim
  case iadd =>
    have hl : len = 1 := Nat.eq_of_beq_eq_true hlen
    subst hl
    simp only [xstep] at h
    split at h
    next y x r =>
      intro H locs ls hP hD hS2 hL
      exact lv_iadd hx hb hdg (hnx _ _ _ h H locs ls hP hD hS2 hL)
    next => exact h.elim
  case isub =>
    have hl : len = 1 := Nat.eq_of_beq_eq_true hlen
    subst hl
    simp only [xstep] at h
    split at h
    next y x r =>
      intro H locs ls hP hD hS2 hL
      exact lv_isub hx hb hdg (hnx _ _ _ h H locs ls hP hD hS2 hL)
    next => exact h.elim
  case imul =>
    have hl : len = 1 := Nat.eq_of_beq_eq_true hlen
    subst hl
    simp only [xstep] at h
    split at h
    next y x r =>
      intro H locs ls hP hD hS2 hL
      exact lv_imul hx hb hdg (hnx _ _ _ h H locs ls hP hD hS2 hL)
    next => exact h.elim
  case iand =>
    have hl : len = 1 := Nat.eq_of_beq_eq_true hlen
    subst hl
    simp only [xstep] at h
    split at h
    next y x r =>
      intro H locs ls hP hD hS2 hL
      exact lv_iand hx hb hdg (hnx _ _ _ h H locs ls hP hD hS2 hL)
    next => exact h.elim
  case idiv =>
    have hl : len = 1 := Nat.eq_of_beq_eq_true hlen
    subst hl
    simp only [xstep] at h
    split at h
    next y x r =>
      by_cases hy : y = 0
      · simp [hy] at h
      · simp only [hy, decide_false, cond_false] at h
        intro H locs ls hP hD hS2 hL
        exact lv_idiv hx hb hdg hy (hnx _ _ _ h H locs ls hP hD hS2 hL)
    next => exact h.elim
  case irem =>
    have hl : len = 1 := Nat.eq_of_beq_eq_true hlen
    subst hl
    simp only [xstep] at h
    split at h
    next y x r =>
      by_cases hy : y = 0
      · simp [hy] at h
      · simp only [hy, decide_false, cond_false] at h
        intro H locs ls hP hD hS2 hL
        exact lv_irem hx hb hdg hy (hnx _ _ _ h H locs ls hP hD hS2 hL)
    next => exact h.elim
  case ladd =>
    have hl : len = 1 := Nat.eq_of_beq_eq_true hlen
    subst hl
    simp only [xstep] at h
    split at h
    next y x r =>
      intro H locs ls hP hD hS2 hL
      exact lv_ladd hx hb hdg (hnx _ _ _ h H locs ls hP hD hS2 hL)
    next => exact h.elim
  case lsub =>
    have hl : len = 1 := Nat.eq_of_beq_eq_true hlen
    subst hl
    simp only [xstep] at h
    split at h
    next y x r =>
      intro H locs ls hP hD hS2 hL
      exact lv_lsub hx hb hdg (hnx _ _ _ h H locs ls hP hD hS2 hL)
    next => exact h.elim
  case lmul =>
    have hl : len = 1 := Nat.eq_of_beq_eq_true hlen
    subst hl
    simp only [xstep] at h
    split at h
    next y x r =>
      intro H locs ls hP hD hS2 hL
      exact lv_lmul hx hb hdg (hnx _ _ _ h H locs ls hP hD hS2 hL)
    next => exact h.elim
  case land =>
    have hl : len = 1 := Nat.eq_of_beq_eq_true hlen
    subst hl
    simp only [xstep] at h
    split at h
    next y x r =>
      intro H locs ls hP hD hS2 hL
      exact lv_land hx hb hdg (hnx _ _ _ h H locs ls hP hD hS2 hL)
    next => exact h.elim
  case ldiv =>
    have hl : len = 1 := Nat.eq_of_beq_eq_true hlen
    subst hl
    simp only [xstep] at h
    split at h
    next y x r =>
      · obtain ⟨hy, h⟩ := h
        intro H locs ls hP hD hS2 hL
        exact lv_ldiv hx hb hdg hy (hnx _ _ _ h H locs ls hP hD hS2 hL)
    next => exact h.elim
  case lrem =>
    have hl : len = 1 := Nat.eq_of_beq_eq_true hlen
    subst hl
    simp only [xstep] at h
    split at h
    next y x r =>
      · obtain ⟨hy, h⟩ := h
        intro H locs ls hP hD hS2 hL
        exact lv_lrem hx hb hdg hy (hnx _ _ _ h H locs ls hP hD hS2 hL)
    next => exact h.elim
  case lneg =>
    have hl : len = 1 := Nat.eq_of_beq_eq_true hlen
    subst hl
    simp only [xstep] at h
    split at h
    next x r =>
      intro H locs ls hP hD hS2 hL
      exact lv_lneg hx hb hdg (hnx _ _ _ h H locs ls hP hD hS2 hL)
    next => exact h.elim
  case lshr =>
    have hl : len = 1 := Nat.eq_of_beq_eq_true hlen
    subst hl
    simp only [xstep] at h
    split at h
    next y x r =>
      intro H locs ls hP hD hS2 hL
      exact lv_lshr hx hb hdg rfl (hnx _ _ _ h H locs ls hP hD hS2 hL)
    next => exact h.elim
  case lcmp =>
    have hl : len = 1 := Nat.eq_of_beq_eq_true hlen
    subst hl
    simp only [xstep] at h
    split at h
    next y x r =>
      intro H locs ls hP hD hS2 hL
      exact W.lcmp hx hb hdg (hnx _ _ _ h H locs ls hP hD hS2 hL)
    next => exact h.elim
  case i2l =>
    have hl : len = 1 := Nat.eq_of_beq_eq_true hlen
    subst hl
    simp only [xstep] at h
    split at h
    next x r =>
      intro H locs ls hP hD hS2 hL
      exact lv_i2l hx hb hdg rfl (hnx _ _ _ h H locs ls hP hD hS2 hL)
    next => exact h.elim
  case l2i =>
    have hl : len = 1 := Nat.eq_of_beq_eq_true hlen
    subst hl
    simp only [xstep] at h
    split at h
    next x r =>
      intro H locs ls hP hD hS2 hL
      exact lv_l2i hx hb hdg rfl (hnx _ _ _ h H locs ls hP hD hS2 hL)
    next => exact h.elim
  case dup =>
    have hl : len = 1 := Nat.eq_of_beq_eq_true hlen
    subst hl
    simp only [xstep] at h
    split at h
    next v r =>
      cases hv : xone v with
      | false => rw [hv] at h; exact h.elim
      | true =>
        rw [hv] at h
        have hc : (xv ad v).category = 1 := by rw [xv_cat]; exact Nat.eq_of_beq_eq_true hv
        intro H locs ls hP hD hS2 hL
        exact lv_dup hx hb hdg hc (hnx _ _ _ h H locs ls hP hD hS2 hL)
    next => exact h.elim
  case pop =>
    have hl : len = 1 := Nat.eq_of_beq_eq_true hlen
    subst hl
    simp only [xstep] at h
    split at h
    next v r =>
      cases hv : xone v with
      | false => rw [hv] at h; exact h.elim
      | true =>
        rw [hv] at h
        have hc : (xv ad v).category = 1 := by rw [xv_cat]; exact Nat.eq_of_beq_eq_true hv
        intro H locs ls hP hD hS2 hL
        exact lv_pop hx hb hdg hc (hnx _ _ _ h H locs ls hP hD hS2 hL)
    next => exact h.elim
  case dup2 =>
    have hl : len = 1 := Nat.eq_of_beq_eq_true hlen
    subst hl
    simp only [xstep] at h
    split at h
    next v w r =>
      cases hv : (xone v && xone w) with
      | false => rw [hv] at h; exact h.elim
      | true =>
        rw [hv] at h
        simp only [Bool.and_eq_true] at hv
        have hc : (xv ad v).category = 1 := by rw [xv_cat]; exact Nat.eq_of_beq_eq_true hv.1
        have hc2 : (xv ad w).category = 1 := by rw [xv_cat]; exact Nat.eq_of_beq_eq_true hv.2
        intro H locs ls hP hD hS2 hL
        exact lv_dup2_11 hx hb hdg hc hc2 (hnx _ _ _ h H locs ls hP hD hS2 hL)
    next => exact h.elim
  case ifCond cnd off =>
    simp only [xlok, Bool.and_eq_true, decide_eq_true_eq] at hlen
    have hl : len = 3 := Nat.eq_of_beq_eq_true hlen.1
    subst hl
    have ht : (pc : Int) + off = ((((pc : Int) + off).toNat : Nat) : Int) := (Int.toNat_of_nonneg hlen.2).symm
    simp only [xstep] at h
    split at h
    next x r =>
      have h := xcmp_of h
      intro H locs ls hP hD hS2 hL
      cases cnd
      case eq => exact lv_if_eq hx hb hdg ht (fun q => hto _ _ _ _ (h.1 q) H locs ls hP hD hS2 hL) (fun q => hnx _ _ _ (h.2 q) H locs ls hP hD hS2 hL)
      case ne => exact lv_if_ne hx hb hdg ht (fun q => hto _ _ _ _ (h.1 q) H locs ls hP hD hS2 hL) (fun q => hnx _ _ _ (h.2 q) H locs ls hP hD hS2 hL)
      case lt => exact lv_if_lt hx hb hdg ht (fun q => hto _ _ _ _ (h.1 q) H locs ls hP hD hS2 hL) (fun q => hnx _ _ _ (h.2 q) H locs ls hP hD hS2 hL)
      case ge => exact lv_if_ge hx hb hdg ht (fun q => hto _ _ _ _ (h.1 q) H locs ls hP hD hS2 hL) (fun q => hnx _ _ _ (h.2 q) H locs ls hP hD hS2 hL)
      case gt => exact lv_if_gt hx hb hdg ht (fun q => hto _ _ _ _ (h.1 q) H locs ls hP hD hS2 hL) (fun q => hnx _ _ _ (h.2 q) H locs ls hP hD hS2 hL)
      case le => exact lv_if_le hx hb hdg ht (fun q => hto _ _ _ _ (h.1 q) H locs ls hP hD hS2 hL) (fun q => hnx _ _ _ (h.2 q) H locs ls hP hD hS2 hL)
    next => exact h.elim
  case if_icmp cnd off =>
    simp only [xlok, Bool.and_eq_true, decide_eq_true_eq] at hlen
    have hl : len = 3 := Nat.eq_of_beq_eq_true hlen.1
    subst hl
    have ht : (pc : Int) + off = ((((pc : Int) + off).toNat : Nat) : Int) := (Int.toNat_of_nonneg hlen.2).symm
    simp only [xstep] at h
    split at h
    next y x r =>
      have h := xcmp_of h
      intro H locs ls hP hD hS2 hL
      cases cnd
      case eq => exact lv_icmp_eq hx hb hdg ht (fun q => hto _ _ _ _ (h.1 q) H locs ls hP hD hS2 hL) (fun q => hnx _ _ _ (h.2 q) H locs ls hP hD hS2 hL)
      case ne => exact lv_icmp_ne hx hb hdg ht (fun q => hto _ _ _ _ (h.1 q) H locs ls hP hD hS2 hL) (fun q => hnx _ _ _ (h.2 q) H locs ls hP hD hS2 hL)
      case lt => exact lv_icmp_lt hx hb hdg ht (fun q => hto _ _ _ _ (h.1 q) H locs ls hP hD hS2 hL) (fun q => hnx _ _ _ (h.2 q) H locs ls hP hD hS2 hL)
      case ge => exact lv_icmp_ge hx hb hdg ht (fun q => hto _ _ _ _ (h.1 q) H locs ls hP hD hS2 hL) (fun q => hnx _ _ _ (h.2 q) H locs ls hP hD hS2 hL)
      case gt => exact lv_icmp_gt hx hb hdg ht (fun q => hto _ _ _ _ (h.1 q) H locs ls hP hD hS2 hL) (fun q => hnx _ _ _ (h.2 q) H locs ls hP hD hS2 hL)
      case le => exact lv_icmp_le hx hb hdg ht (fun q => hto _ _ _ _ (h.1 q) H locs ls hP hD hS2 hL) (fun q => hnx _ _ _ (h.2 q) H locs ls hP hD hS2 hL)
    next => exact h.elim
  case goto off =>
    have hl : len = 3 := Nat.eq_of_beq_eq_true hlen
    subst hl
    simp only [xstep] at h
    intro H locs ls hP hD hS2 hL
    have h0 := hto _ _ _ _ h H locs ls hP hD hS2 hL
    by_cases hn : 0 ≤ (pc : Int) + off
    · exact lv_goto hx hb hdg (Int.toNat_of_nonneg hn).symm h0
    · exfalso
      unfold xto at h
      obtain ⟨j1, j2⟩ := xsf.jmp (t := (pc : Int) + off) code hcode
      split at h
      next hj =>
        have hd : ¬ ((((pc : Int) + off).toNat : Nat) : Int) = (pc : Int) + off := by omega
        simp only [hd, decide_false, cond_false] at h
      next i cs2 hj =>
        have h3 := j2 i cs2 hj
        omega
  case getfield ix =>
    have hl : len = 3 := Nat.eq_of_beq_eq_true hlen
    subst hl
    simp only [xstep] at h
    split at h
    next k r =>
      split at h
      next ci j tg hf =>
        split at h
        next ci2 fs hG =>
          cases hb2 : Nat.beq ci2 ci with
          | false => rw [hb2] at h; exact h.elim
          | true =>
            rw [hb2] at h
            have e : ci2 = ci := Nat.eq_of_beq_eq_true hb2
            subst e
            simp only [cond_true] at h
            split at h
            next v hv =>
              obtain ⟨C, T, N, ty0, hc, hk, hin, hty, hnm, hcls, hlink, -⟩ := hft _ (xfind_mem _ _ _ hf)
              intro H locs ls hP hD hS2 hL
              have he : (xw ad kI kJ kQ G)[k]? = some (ad k, .inr (ci2, fs.map (xv ad))) := xw_at (by rw [← xnth_eq]; exact hG)
              have hv' : (fs.map (xv ad))[j]? = some (xv ad v) := by rw [List.getElem?_map, ← xnth_eq, hv]; rfl
              rcases hlink with hl | ⟨host, hl⟩
              · exact va_get (D := (dC, dI)) (cl := vwCl) hx hb hts hin hown hKK hP k he hc j hk (hts _ hl) (fun x h9 => by rw [hcls] at h9; exact h9) hv' hdg (hnx _ _ _ h H locs ls hP hD hS2 hL)
              · exact va_getN (D := (dC, dI)) (cl := vwCl) hx hb hts hin hown hKK hP k he hc j hk (va_Nw.use rfl (hN _ hl rfl)) (fun x h9 => by rw [hcls] at h9; exact h9) hv' hdg (hnx _ _ _ h H locs ls hP hD hS2 hL)
            next => exact h.elim
        next => exact h.elim
      next => exact h.elim
    next => exact h.elim
  case putfield ix =>
    have hl : len = 3 := Nat.eq_of_beq_eq_true hlen
    subst hl
    simp only [xstep] at h
    split at h
    next x k r =>
      split at h
      next ci j hf =>
        split at h
        next ci2 fs hG =>
          cases hb2 : Nat.beq ci2 ci with
          | false => rw [hb2] at h; exact h.elim
          | true =>
            rw [hb2] at h
            have e : ci2 = ci := Nat.eq_of_beq_eq_true hb2
            subst e
            simp only [cond_true] at h
            obtain ⟨h1, h2⟩ := xset_ok _ _ _ _ h
            obtain ⟨h3, h4⟩ := xset_ok _ _ _ _ h2
            obtain ⟨C, T, N, ty0, hc, hk, hin, hty, hnm, hcls, -, hw, -, hlk⟩ := hft _ (xfind_mem _ _ _ hf)
            obtain ⟨hw1, hw2⟩ := hw rfl
            have hl := hlk (by simp)
            intro H locs ls hP hD hS2 hL
            have he : (xw ad kI kJ kQ G)[k]? = some (ad k, .inr (ci2, fs.map (xv ad))) := xw_at (by rw [← xnth_eq]; exact hG)
            refine va_put (D := (dC, dI)) (cl := vwCl) (v := .int x) (ty := .int) hx hb hts hin ty0 hty hnm hown hKK hP hD hS2 k he hc j hk (hts _ hl) (fun x h9 => by rw [hcls] at h9; exact h9) hw1 (by rw [hty _ hk]; exact congrArg some hw2) rfl rfl (by simpa using h1) hdg (fun H1 locs1 hP1 hD1 hS1 => ?_)
            have ee : (xw ad kI kJ kQ G).set k (ad k, .inr (ci2, (fs.map (xv ad)).set j (.int x))) = xw ad kI kJ kQ (G.set k (.inr (ci2, fs.set j (.int x)))) := by
              rw [← xw_set]
              show _ = (xw ad kI kJ kQ G).set k (ad k, .inr (ci2, (fs.set j (.int x)).map (xv ad)))
              rw [List.map_set]; rfl
            rw [ee] at hP1 hD1
            exact hnx _ _ _ h4 H1 locs1 ls hP1 hD1 hS1 hL
        next => exact h.elim
      next => exact h.elim
    next x k r =>
      split at h
      next ci j hf =>
        split at h
        next ci2 fs hG =>
          cases hb2 : Nat.beq ci2 ci with
          | false => rw [hb2] at h; exact h.elim
          | true =>
            rw [hb2] at h
            have e : ci2 = ci := Nat.eq_of_beq_eq_true hb2
            subst e
            simp only [cond_true] at h
            obtain ⟨h1, h2⟩ := xset_ok _ _ _ _ h
            obtain ⟨h3, h4⟩ := xset_ok _ _ _ _ h2
            obtain ⟨C, T, N, ty0, hc, hk, hin, hty, hnm, hcls, -, -, hw, hlk⟩ := hft _ (xfind_mem _ _ _ hf)
            obtain ⟨hw1, hw2⟩ := hw rfl
            have hl := hlk (by simp)
            intro H locs ls hP hD hS2 hL
            have he : (xw ad kI kJ kQ G)[k]? = some (ad k, .inr (ci2, fs.map (xv ad))) := xw_at (by rw [← xnth_eq]; exact hG)
            refine va_put (D := (dC, dI)) (cl := vwCl) (v := .long x) (ty := .long) hx hb hts hin ty0 hty hnm hown hKK hP hD hS2 k he hc j hk (hts _ hl) (fun x h9 => by rw [hcls] at h9; exact h9) hw1 (by rw [hty _ hk]; exact congrArg some hw2) rfl rfl (by simpa using h1) hdg (fun H1 locs1 hP1 hD1 hS1 => ?_)
            have ee : (xw ad kI kJ kQ G).set k (ad k, .inr (ci2, (fs.map (xv ad)).set j (.long x))) = xw ad kI kJ kQ (G.set k (.inr (ci2, fs.set j (.long x)))) := by
              rw [← xw_set]
              show _ = (xw ad kI kJ kQ G).set k (ad k, .inr (ci2, (fs.set j (.long x)).map (xv ad)))
              rw [List.map_set]; rfl
            rw [ee] at hP1 hD1
            exact hnx _ _ _ h4 H1 locs1 ls hP1 hD1 hS1 hL
        next => exact h.elim
      next => exact h.elim
    next => exact h.elim
  case iaload =>
    have hl : len = 1 := Nat.eq_of_beq_eq_true hlen
    subst hl
    simp only [xstep] at h
    split at h
    next i k r =>
      split at h
      next n f hG =>
        · obtain ⟨hi, h⟩ := xidx_of h
          intro H locs ls hP hD hS2 hL
          have he : (xw ad kI kJ kQ G)[k]? = some (ad k, .inl (kI, n, .inl f)) := xw_at (by rw [← xnth_eq]; exact hG)
          exact va_iald (D := (dC, dI)) (cl := vwCl) hx hb hKK hP k 0 he rfl (xin_ok hi) hdg (hnx _ _ _ h H locs ls hP hD hS2 hL)
      next => exact h.elim
    next => exact h.elim
  case laload =>
    have hl : len = 1 := Nat.eq_of_beq_eq_true hlen
    subst hl
    simp only [xstep] at h
    split at h
    next i k r =>
      split at h
      next n f hG =>
        · obtain ⟨hi, h⟩ := xidx_of h
          intro H locs ls hP hD hS2 hL
          have he : (xw ad kI kJ kQ G)[k]? = some (ad k, .inl (kJ, n, .inr (.inl f))) := xw_at (by rw [← xnth_eq]; exact hG)
          exact va_lald (D := (dC, dI)) (cl := vwCl) hx hb hKK hP k 1 he rfl (xin_ok hi) hdg (hnx _ _ _ h H locs ls hP hD hS2 hL)
      next => exact h.elim
    next => exact h.elim
  case aaload =>
    have hl : len = 1 := Nat.eq_of_beq_eq_true hlen
    subst hl
    simp only [xstep] at h
    split at h
    next i k r =>
      split at h
      next n f hG =>
        · obtain ⟨hi, h⟩ := xidx_of h
          split at h
          next q hq =>
            intro H locs ls hP hD hS2 hL
            have he : (xw ad kI kJ kQ G)[k]? = some (ad k, .inl (kQ, n, .inr (.inr (.inr (.inr (xq ad f)))))) := xw_at (by rw [← xnth_eq]; exact hG)
            have hin := xin_ok hi
            have hlt : i.toNatClampNeg < n := Nat.not_le.mp fun q => hin (Or.inr q)
            have hv : va_rf (xq ad f i.toNatClampNeg) = .ref (ad q) := by simp [xq, hq, va_rf]
            have h1 := hnx _ _ _ h H locs ls hP hD hS2 hL
            exact W.aald (v := .ref (ad q)) (ty := .array .long) hx hb (hP k _ he) ((hKK.2 2 _ rfl).1 n (fun j => va_rf (xq ad f j))) rfl (fun q => by cases q) (by show ¬ (i < 0 ∨ (arrV _ _ _).slots.size ≤ _); rw [arrV_size]; exact hin) (by show (arrV _ _ _).slots[_]? = _; rw [arrV_read _ _ hlt, hv]) rfl rfl hdg h1
          next => exact h.elim
      next => exact h.elim
    next => exact h.elim
  case iastore =>
    have hl : len = 1 := Nat.eq_of_beq_eq_true hlen
    subst hl
    simp only [xstep] at h
    split at h
    next x i k r =>
      split at h
      next n f hG =>
        · obtain ⟨hi, h⟩ := xidx_of h
          obtain ⟨h3, h4⟩ := xset_ok _ _ _ _ h
          intro H locs ls hP hD hS2 hL
          have he : (xw ad kI kJ kQ G)[k]? = some (ad k, .inl (kI, n, .inl f)) := xw_at (by rw [← xnth_eq]; exact hG)
          refine va_iast (D := (dC, dI)) (cl := vwCl) hx hb hKK hP hD hS2 k 0 he rfl (xin_ok hi) hdg (fun H1 locs1 hP1 hD1 hS1 => ?_)
          have ee : (xw ad kI kJ kQ G).set k (ad k, .inl (kI, n, .inl (upd f i.toNatClampNeg x))) = xw ad kI kJ kQ (G.set k (.inl (n, .inl (upd f i.toNatClampNeg x)))) := xw_set (e := .inl (n, .inl (upd f i.toNatClampNeg x)))
          rw [ee] at hP1 hD1
          exact hnx _ _ _ h4 H1 locs1 ls hP1 hD1 hS1 hL
      next => exact h.elim
    next => exact h.elim
  case lastore =>
    have hl : len = 1 := Nat.eq_of_beq_eq_true hlen
    subst hl
    simp only [xstep] at h
    split at h
    next x i k r =>
      split at h
      next n f hG =>
        · obtain ⟨hi, h⟩ := xidx_of h
          obtain ⟨h3, h4⟩ := xset_ok _ _ _ _ h
          intro H locs ls hP hD hS2 hL
          have he : (xw ad kI kJ kQ G)[k]? = some (ad k, .inl (kJ, n, .inr (.inl f))) := xw_at (by rw [← xnth_eq]; exact hG)
          refine va_last (D := (dC, dI)) (cl := vwCl) hx hb hKK hP hD hS2 k 1 he rfl (xin_ok hi) hdg (fun H1 locs1 hP1 hD1 hS1 => ?_)
          have ee : (xw ad kI kJ kQ G).set k (ad k, .inl (kJ, n, .inr (.inl (vp_updL f i.toNatClampNeg x)))) = xw ad kI kJ kQ (G.set k (.inl (n, .inr (.inl (vp_updL f i.toNatClampNeg x))))) := xw_set (e := .inl (n, .inr (.inl (vp_updL f i.toNatClampNeg x))))
          rw [ee] at hP1 hD1
          exact hnx _ _ _ h4 H1 locs1 ls hP1 hD1 hS1 hL
      next => exact h.elim
    next => exact h.elim
  case arraylength =>
    have hl : len = 1 := Nat.eq_of_beq_eq_true hlen
    subst hl
    simp only [xstep] at h
    split at h
    next k r =>
      split at h
      next n f hG =>
        intro H locs ls hP hD hS2 hL
        have he : (xw ad kI kJ kQ G)[k]? = some (ad k, .inl (kI, n, .inl f)) := xw_at (by rw [← xnth_eq]; exact hG)
        exact va_alen (D := (dC, dI)) (cl := vwCl) hx hb hKK hP k 0 he rfl rfl hdg (hnx _ _ _ h H locs ls hP hD hS2 hL)
      next n f hG =>
        intro H locs ls hP hD hS2 hL
        have he : (xw ad kI kJ kQ G)[k]? = some (ad k, .inl (kJ, n, .inr (.inl f))) := xw_at (by rw [← xnth_eq]; exact hG)
        exact va_alen (D := (dC, dI)) (cl := vwCl) hx hb hKK hP k 1 he rfl rfl hdg (hnx _ _ _ h H locs ls hP hD hS2 hL)
      next => exact h.elim
    next => exact h.elim
  case invokevirtual ix =>
    have hl : len = 3 := Nat.eq_of_beq_eq_true hlen
    subst hl
    simp only [xstep] at h
    split at h
    next q hq => exact hoc _ (xfind_mem _ _ _ hq) pc lv st G _ ix (Or.inl ⟨rfl, hdg⟩) (fun st G hk => hnx _ _ _ hk) h
    next => exact hK _ _ _ _ h
  case invokestatic ix =>
    have hl : len = 3 := Nat.eq_of_beq_eq_true hlen
    subst hl
    simp only [xstep] at h
    split at h
    next q hq => exact hoc _ (xfind_mem _ _ _ hq) pc lv st G _ ix (Or.inr ⟨rfl, hdg⟩) (fun st G hk => hnx _ _ _ hk) h
    next => exact hK _ _ _ _ h
  case ireturn =>
    have hl : len = 1 := Nat.eq_of_beq_eq_true hlen
    subst hl
    simp only [xstep] at h
    split at h
    next x =>
      split at h
      next => exact hI _ _ _ _ hdg rfl h
      next => exact hI _ _ _ _ hdg (decide_eq_true h.1) h.2
      next => exact h.elim
    next => exact h.elim
  case lreturn =>
    have hl : len = 1 := Nat.eq_of_beq_eq_true hlen
    subst hl
    simp only [xstep] at h
    split at h
    next x =>
      split at h
      next => exact hJ _ _ _ _ hdg rfl h
      next => exact h.elim
    next => exact h.elim
  case return_ =>
    have hl : len = 1 := Nat.eq_of_beq_eq_true hlen
    subst hl
    simp only [xstep] at h
    split at h
    next =>
      split at h
      next => exact hV _ _ _ hdg rfl h
      next => exact h.elim
    next => exact h.elim
  all_goals exact hK _ _ _ _ h
/-- a stretch is sound -/
theorem xex_ok {code : List xI} {ft : List xF} {ct : List (Nat × Int64)} {oc : List (Nat × xH)} {ret : Option FieldType} {post : Option Value → List xE → Prop} {bp db sb : List Nat}
    (hS : xS p s m args c dC dI kI kJ kQ own cc nL) (hft : ∀ q ∈ ft, xFok own q) (hct : ∀ q ∈ ct, Cond.constantLong own q.1 q.2 ∈ xT) (hoc : ∀ q ∈ oc, xHk p l e R s m args below meth c Q dC dI ad kI kJ kQ A H0 nL cells slots cc q)
    (hcode : xsf cc code)
    (hI : ∀ pc lv x G, decode cc pc = .ok (.ireturn, 1) → xnar ret x = true → post (some (.int x)) G → xW p l e R s m args below meth c Q dC dI ad kI kJ kQ A H0 nL cells slots pc lv [.int x] G)
    (hJ : ∀ pc lv x G, decode cc pc = .ok (.lreturn, 1) → ret = some .long → post (some (.long x)) G → xW p l e R s m args below meth c Q dC dI ad kI kJ kQ A H0 nL cells slots pc lv [.long x] G)
    (hV : ∀ pc lv G, decode cc pc = .ok (.return_, 1) → ret = none → post none G → xW p l e R s m args below meth c Q dC dI ad kI kJ kQ A H0 nL cells slots pc lv [] G) :
    ∀ (n : Nat) (fr : Bool) (cs : List xI) (lv : List (Option Value)) (st : List Value) (G : List xE), xsf cc cs →
      xex code ft ct oc ret post (xW p l e R s m args below meth c Q dC dI ad kI kJ kQ A H0 nL cells slots) bp db sb n fr cs lv st G → xWs p l e R s m args below meth c Q dC dI ad kI kJ kQ A H0 nL cells slots cs lv st G
  | n, fr, [], lv, st, G, _, h => by cases n <;> exact h.elim
  | 0, fr, i :: cs, lv, st, G, _, h => ⟨i, cs, rfl, h⟩
  | n + 1, fr, (pc, ins, len) :: cs, lv, st, G, hcs, h => by
    refine ⟨_, _, rfl, ?_⟩
    unfold xex at h
    cases hb : (fr && xhas bp pc) with
    | true => rw [hb] at h; exact h
    | false =>
      rw [hb] at h
      exact xstep_ok hS hft hct hoc hcode hcs (fun cs lv st G h1 h2 => xex_ok hS hft hct hoc hcode hI hJ hV n true cs lv st G h1 h2) (fun _ _ _ _ h => h) hI hJ hV h
end XSND
