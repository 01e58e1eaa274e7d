/-! THE ENGINE: a symbolic run of a stretch of bytecode as one reduction; its soundness over the machine ('W') once and for all. A cell of the world is named by its place in a list. -/
abbrev xE : Type := vp_A ⊕ (Nat × List Value)
def xv (ad : Nat → Nat) (v : Value) : Value := match v with
  | .ref k => .ref (ad k)
  | w => w
def xq (ad : Nat → Nat) (f : Nat → Option Nat) : Nat → Option Nat := fun i => (f i).map ad
def xe (ad : Nat → Nat) (kI kJ kQ : ClassId) (e : xE) : va_E := match e with
  | .inl (n, .inl f) => .inl (kI, n, .inl f)
  | .inl (n, .inr (.inl f)) => .inl (kJ, n, .inr (.inl f))
  | .inl (n, .inr (.inr (.inl f))) => .inl (kI, n, .inr (.inr (.inl f)))
  | .inl (n, .inr (.inr (.inr (.inl f)))) => .inl (kI, n, .inr (.inr (.inr (.inl f))))
  | .inl (n, .inr (.inr (.inr (.inr f)))) => .inl (kQ, n, .inr (.inr (.inr (.inr (xq ad f)))))
  | .inr (ci, fs) => .inr (ci, fs.map (xv ad))
def xw (ad : Nat → Nat) (kI kJ kQ : ClassId) (G : List xE) : va_W := G.mapIdx (fun k e => (ad k, xe ad kI kJ kQ e))
theorem xw_get {ad : Nat → Nat} {kI kJ kQ : ClassId} {G : List xE} {k : Nat} : (xw ad kI kJ kQ G)[k]? = (G[k]?).map (fun e => (ad k, xe ad kI kJ kQ e)) := by
  simp [xw]
theorem xw_at {ad : Nat → Nat} {kI kJ kQ : ClassId} {G : List xE} {k : Nat} {e : xE} (h : G[k]? = some e) : (xw ad kI kJ kQ G)[k]? = some (ad k, xe ad kI kJ kQ e) := by
  rw [xw_get, h]; rfl
theorem xw_len {ad : Nat → Nat} {kI kJ kQ : ClassId} {G : List xE} : (xw ad kI kJ kQ G).length = G.length := by simp [xw]
theorem xw_set {ad : Nat → Nat} {kI kJ kQ : ClassId} {G : List xE} {k : Nat} {e : xE} : (xw ad kI kJ kQ G).set k (ad k, xe ad kI kJ kQ e) = xw ad kI kJ kQ (G.set k e) := by
  apply List.ext_getElem?
  intro j
  rw [xw_get, List.getElem?_set, List.getElem?_set, xw_len, xw_get]
  by_cases h : k = j
  · subst h
    by_cases h2 : k < G.length
    · simp [h2]
    · simp [h2]
  · simp [h]
theorem xv_cat (ad : Nat → Nat) (v : Value) : (xv ad v).category = v.category := by cases v <;> rfl
/-- element by place -/
def xnth {α : Type} : List α → Nat → Option α
  | [], _ => none
  | a :: _, 0 => some a
  | _ :: t, n + 1 => xnth t n
theorem xnth_eq {α : Type} : ∀ (l : List α) (n : Nat), xnth l n = l[n]?
  | [], n => by simp [xnth]
  | a :: t, 0 => by simp [xnth]
  | a :: t, n + 1 => by simp [xnth, xnth_eq t n]
/-- a list with one element set, handed on -/
def xset {α : Type} (v : α) : List α → Nat → (List α → Prop) → Prop
  | [], _, _ => False
  | _ :: t, 0, K => K (v :: t)
  | h :: t, n + 1, K => xset v t n (fun t' => K (h :: t'))
theorem xset_ok {α : Type} (v : α) : ∀ (l : List α) (n : Nat) (K : List α → Prop), xset v l n K → n < l.length ∧ K (l.set n v)
  | [], n, K, h => h.elim
  | a :: t, 0, K, h => ⟨by simp, h⟩
  | a :: t, n + 1, K, h => by
    obtain ⟨h1, h2⟩ := xset_ok v t n (fun t' => K (a :: t')) h
    exact ⟨by simp; omega, h2⟩
def xfind {β : Type} : List (Nat × β) → Nat → Option β
  | [], _ => none
  | (k, b) :: t, n => cond (Nat.beq k n) (some b) (xfind t n)
theorem xfind_mem {β : Type} : ∀ (l : List (Nat × β)) (n : Nat) (b : β), xfind l n = some b → (n, b) ∈ l
  | [], n, b, h => by simp [xfind] at h
  | (k, b') :: t, n, b, h => by
    unfold xfind at h
    cases hk : Nat.beq k n with
    | true =>
      rw [hk] at h
      have hb : b' = b := Option.some.inj h
      rw [Nat.eq_of_beq_eq_true hk, hb]
      exact List.mem_cons_self
    | false =>
      rw [hk] at h
      exact List.mem_cons_of_mem _ (xfind_mem t n b h)
/-- locals -/
def xL (ad : Nat → Nat) (nL : Nat) (lv : List (Option Value)) (ls : Array Slot) : Prop := ls.size = nL ∧ lv_wf ls ∧ lv.length = nL ∧ ∀ (i : Nat) (v : Value), lv[i]? = some (some v) → ls[i]? = some (.val (xv ad v))
def xlp (ad : Nat → Nat) (lv : List (Option Value)) : List (Nat × Value) := (List.range lv.length).filterMap (fun i => ((lv[i]?).join).map (fun v => (i, xv ad v)))
theorem xlp_mem {ad : Nat → Nat} {lv : List (Option Value)} {q : Nat × Value} : q ∈ xlp ad lv ↔ ∃ v, lv[q.1]? = some (some v) ∧ q.2 = xv ad v := by
  unfold xlp
  rw [List.mem_filterMap]
  constructor
  · rintro ⟨i, -, h⟩
    cases hj : lv[i]? with
    | none => rw [hj] at h; cases h
    | some o =>
      rw [hj] at h
      cases o with
      | none => cases h
      | some v =>
        cases h
        exact ⟨v, hj, rfl⟩
  · rintro ⟨v, h1, h2⟩
    refine ⟨q.1, List.mem_range.mpr (List.getElem?_eq_some_iff.mp h1).1, ?_⟩
    rw [h1]
    simp [← h2]
theorem xL.has {ad : Nat → Nat} {nL : Nat} {lv : List (Option Value)} {ls : Array Slot} (h : xL ad nL lv ls) : lv_has ls nL (xlp ad lv) := by
  refine ⟨h.1, h.2.1, fun q hq => ?_⟩
  obtain ⟨v, h1, h2⟩ := xlp_mem.mp hq
  rw [h2]
  exact h.2.2.2 _ _ h1
def xcl (o : Option Value) (K : Option Value → Prop) : Prop := match o with
  | none => K none
  | some w => cond (Nat.beq w.category 2) (K none) (K (some w))
/-- a value stored into the locals -/
def xst (v : Value) : List (Option Value) → Nat → (List (Option Value) → Prop) → Prop
  | [], _, _ => False
  | _ :: t, 0, K => cond (Nat.beq v.category 2) (match t with | [] => False | _ :: t2 => K (some v :: none :: t2)) (K (some v :: t))
  | o :: t, 1, K => xcl o (fun o' => xst v t 0 (fun t' => K (o' :: t')))
  | o :: t, n + 2, K => xst v t (n + 1) (fun t' => K (o :: t'))
def xstP (v : Value) (i : Nat) (lv lv' : List (Option Value)) : Prop := lv'.length = lv.length ∧ i < lv.length ∧ (v.category = 2 → i + 1 < lv.length) ∧ ∀ (j : Nat) (w : Value), lv'[j]? = some (some w) → (j = i ∧ w = v) ∨ (lv[j]? = some (some w) ∧ j ≠ i ∧ ¬ (v.category = 2 ∧ j = i + 1) ∧ ¬ (j + 1 = i ∧ w.category = 2))
theorem xst_ok0 (v : Value) (o : Option Value) (t : List (Option Value)) (K : List (Option Value) → Prop) (h : xst v (o :: t) 0 K) : ∃ lv', K lv' ∧ xstP v 0 (o :: t) lv' := by
  unfold xst at h
  rcases lv_cat v with hc | hc
  · rw [hc] at h
    refine ⟨_, h, rfl, by simp, fun h9 => by omega, fun j w hj => ?_⟩
    cases j with
    | zero => simp at hj; exact Or.inl ⟨rfl, hj.symm⟩
    | succ j => simp at hj; exact Or.inr ⟨by simpa using hj, by omega, by omega, by omega⟩
  · rw [hc] at h
    cases t with
    | nil => exact h.elim
    | cons b t =>
      refine ⟨_, h, rfl, by simp, fun h9 => by simp, fun j w hj => ?_⟩
      cases j with
      | zero => simp at hj; exact Or.inl ⟨rfl, hj.symm⟩
      | succ j =>
        cases j with
        | zero => simp at hj
        | succ j => simp at hj; exact Or.inr ⟨by simpa using hj, by omega, by omega, by omega⟩
theorem xst_ok (v : Value) : ∀ (lv : List (Option Value)) (i : Nat) (K : List (Option Value) → Prop), xst v lv i K → ∃ lv', K lv' ∧ xstP v i lv lv'
  | [], _, _, h => by simp [xst] at h
  | o :: t, 0, K, h => xst_ok0 v o t K h
  | o :: t, 1, K, h => by
    unfold xst at h
    have key : ∀ o' : Option Value, (∀ w, o' = some w → o = some w ∧ ¬ w.category = 2) → xst v t 0 (fun t' => K (o' :: t')) → ∃ lv', K lv' ∧ xstP v 1 (o :: t) lv' := by
      intro o' ho h
      obtain ⟨t', h1, h2, h3, h4, h5⟩ := xst_ok v t 0 _ h
      refine ⟨_, h1, by simp [h2], by simp; omega, fun h9 => by simp; have := h4 h9; omega, fun j w hj => ?_⟩
      cases j with
      | zero =>
        simp at hj
        obtain ⟨h6, h7⟩ := ho w hj
        exact Or.inr ⟨by simp [h6], by omega, by omega, fun h => h7 h.2⟩
      | succ j =>
        simp at hj
        rcases h5 j w hj with ⟨h6, h7⟩ | ⟨h6, h7, h8, h9⟩
        · exact Or.inl ⟨by omega, h7⟩
        · exact Or.inr ⟨by simpa using h6, by omega, fun hh => h8 ⟨hh.1, by omega⟩, fun hh => by omega⟩
    unfold xcl at h
    cases o with
    | none => exact key none (fun w h9 => by cases h9) h
    | some w =>
      dsimp only at h
      rcases lv_cat w with hc | hc
      · rw [hc] at h
        exact key (some w) (fun w2 h9 => by cases h9; exact ⟨rfl, by omega⟩) h
      · rw [hc] at h
        exact key none (fun w h9 => by cases h9) h
  | o :: t, n + 2, K, h => by
    unfold xst at h
    obtain ⟨t', h1, h2, h3, h4, h5⟩ := xst_ok v t (n + 1) _ h
    refine ⟨_, h1, by simp [h2], by simp; omega, fun h9 => by simp; have := h4 h9; omega, fun j w hj => ?_⟩
    cases j with
    | zero =>
      simp at hj
      exact Or.inr ⟨by simp [hj], by omega, by omega, by omega⟩
    | succ j =>
      simp at hj
      rcases h5 j w hj with ⟨h6, h7⟩ | ⟨h6, h7, h8, h9⟩
      · exact Or.inl ⟨by omega, h7⟩
      · exact Or.inr ⟨by simpa using h6, by omega, fun hh => h8 ⟨hh.1, by omega⟩, fun hh => h9 ⟨by omega, hh.2⟩⟩
theorem xL_put1 {ad : Nat → Nat} {nL i : Nat} {v : Value} {lv lv' : List (Option Value)} {ls' : Array Slot} (hc : v.category = 1) (hp : xstP v i lv lv') (hn : lv.length = nL) (h : lv_has ls' nL ((i, xv ad v) :: (xlp ad lv).filter (fun q => !(q.1 == i) && !(q.1 + 1 == i && q.2.category == 2)))) : xL ad nL lv' ls' := by
  refine ⟨h.1, h.2.1, hp.1.trans hn, fun j w hj => ?_⟩
  rcases hp.2.2.2 j w hj with ⟨rfl, rfl⟩ | ⟨h1, h2, h3, h4⟩
  · exact h.2.2 (_, _) List.mem_cons_self
  · refine h.2.2 (j, xv ad w) (List.mem_cons_of_mem _ (List.mem_filter.mpr ⟨xlp_mem.mpr ⟨w, h1, rfl⟩, ?_⟩))
    simp only [xv_cat, Bool.and_eq_true, Bool.not_eq_true', beq_eq_false_iff_ne, ne_eq, Bool.and_eq_false_iff]
    refine ⟨h2, ?_⟩
    by_cases h5 : j + 1 = i
    · exact Or.inr (fun h6 => h4 ⟨h5, h6⟩)
    · exact Or.inl h5
theorem xL_put2 {ad : Nat → Nat} {nL i : Nat} {v : Value} {lv lv' : List (Option Value)} {ls' : Array Slot} (hc : v.category = 2) (hp : xstP v i lv lv') (hn : lv.length = nL) (h : lv_has ls' nL ((i, xv ad v) :: (xlp ad lv).filter (fun q => !(q.1 == i) && (!(q.1 == i + 1) && !(q.1 + 1 == i && q.2.category == 2))))) : xL ad nL lv' ls' := by
  refine ⟨h.1, h.2.1, hp.1.trans hn, fun j w hj => ?_⟩
  rcases hp.2.2.2 j w hj with ⟨rfl, rfl⟩ | ⟨h1, h2, h3, h4⟩
  · exact h.2.2 (_, _) List.mem_cons_self
  · refine h.2.2 (j, xv ad w) (List.mem_cons_of_mem _ (List.mem_filter.mpr ⟨xlp_mem.mpr ⟨w, h1, rfl⟩, ?_⟩))
    simp only [xv_cat, Bool.and_eq_true, Bool.not_eq_true', beq_eq_false_iff_ne, ne_eq, Bool.and_eq_false_iff]
    refine ⟨h2, fun h9 => h3 ⟨hc, h9⟩, ?_⟩
    by_cases h5 : j + 1 = i
    · exact Or.inr (fun h6 => h4 ⟨h5, h6⟩)
    · exact Or.inl h5
