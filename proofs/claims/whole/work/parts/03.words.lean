/-! the tables' words that every method may use, and those of nest mates -/
def xT : List Cond := lw_tbl.filter goodWord
theorem xT_of {w : Cond} (h : w ∈ lw_tbl) (g : goodWord w = true) : w ∈ xT := List.mem_filter.mpr ⟨h, g⟩
theorem xT_at {w : Cond} (i : Nat) (h : tables_1[i]? = some w) (g : goodWord w = true) : w ∈ xT := xT_of (List.mem_append_right _ (List.mem_of_getElem? h)) g
theorem xT_priv {y : MethodName} {n : Nat} (i : Nat) (h : lw_privs[i]? = some (y, n)) : Cond.selects y.cls y y ∈ xT := by
  refine xT_of (List.mem_append_left _ ?_) rfl
  exact List.mem_map.mpr ⟨(y, n), List.mem_of_getElem? h, rfl⟩
/-- which fields a class file's entries name: entry, class, place, how it may be written (1 int, 2 long) -/
abbrev xF : Type := Nat × Nat × Nat × Nat
def xFok (own : String) (q : xF) : Prop := ∃ (C : String) (T : u_T) (N : Nat) (ty0 : Nat → FieldType), vwCl[q.2.1]? = some (C, T, N) ∧ q.2.2.1 < N ∧ (∀ w ∈ u_ws C T N, w ∈ xT) ∧ (∀ k, k < N → parseFieldDescriptor (T k).2.2.1 = some (ty0 k)) ∧ (∀ a, a < N → ∀ b, b < N → a ≠ b → (T a).2.1 ≠ (T b).2.1) ∧ (T q.2.2.1).1 = C ∧
  (Cond.fieldLink own q.1 C (T q.2.2.1).2.1 (T q.2.2.1).2.2.1 ∈ xT ∨ ∃ host, Cond.fieldLinkNest own q.1 C (T q.2.2.1).2.1 (T q.2.2.1).2.2.1 host ∈ tables_1) ∧
  (q.2.2.2 = 1 → (T q.2.2.1).2.2.2 = false ∧ ty0 q.2.2.1 = .int) ∧ (q.2.2.2 = 2 → (T q.2.2.1).2.2.2 = false ∧ ty0 q.2.2.1 = .long) ∧ (q.2.2.2 ≠ 0 → Cond.fieldLink own q.1 C (T q.2.2.1).2.1 (T q.2.2.1).2.2.1 ∈ xT)
/-- what the tables say of a method that is called; n: its parameters -/
def xY (y : MethodName) (cb : ByteArray) (maxL : Nat) (ret : Option FieldType) (n : Nat) : Prop := Cond.code y cb maxL ret ∈ xT ∧ Cond.initialized y.cls ∈ xT ∧ y.cls ≠ "java/lang/invoke/MethodHandle" ∧ y.cls ≠ "java/lang/invoke/VarHandle" ∧ (parseMethodDescriptor y.desc).map (fun d => d.parameters.length) = some n
