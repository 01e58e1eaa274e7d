def xnest (w : Cond) : Bool := match w with
  | .fieldLinkNest .. => true
  | .methodLinkNest .. => true
  | _ => false
def xN (U : State) : Prop := ∀ w ∈ tables_1, xnest w = true → va_Nw w U
theorem xN.warm {s U : State} (hW : s.WarmedH U.vm) (h : xN s) : xN U := by
  intro w hw hn
  have h1 := h w hw hn
  cases w <;> first | (exact va_Nw.warmF hW h1) | (exact va_Nw.warmM hW h1) | (cases hn)
theorem xN.same {u U : State} (hv : u.vm = U.vm) (h : xN u) : xN U := by
  intro w hw hn
  refine va_Nw.same ?_ hv (h w hw hn)
  cases w <;> first | rfl | (cases hn)
def xty (kI kJ kQ : ClassId) : List (ClassId × FieldType) := [(kI, .int), (kJ, .long), (kQ, .array .long)]
/-- what holds of a method's frame all along -/
def xS (p : Program) (s : State) (m : MethodId) (args : Array Value) (c : Code) (dC : Nat → ClassId) (dI : Nat → Nat → Nat) (kI kJ kQ : ClassId) (own : String) (cc : ByteArray) (nL : Nat) : Prop :=
  p.tables.exec = Jvm.exec ∧ c.code = cc ∧ c.maxLocals = nL ∧ s.vm.findClass own = some m.cls ∧ (∀ w ∈ xT, w.before args s = true) ∧ va_K (dC, dI) vwCl (xty kI kJ kQ) s ∧ xN s
/-- the machine, from this point on, comes to its end; the world is given by places -/
def xW (p : Program) (l : Launch) (e : Env) (R : Room) (s : State) (m : MethodId) (args : Array Value) (below : List Frame) (meth : Method) (c : Code) (Q : State → Prop) (dC : Nat → ClassId) (dI : Nat → Nat → Nat) (ad : Nat → Nat) (kI kJ kQ : ClassId) (A : Nat → Prop) (H0 : Heap) (nL cells slots : Nat) (pc : Nat) (lv : List (Option Value)) (st : List Value) (G : List xE) : Prop :=
  ∀ (H : Heap) (locs : List Loc) (ls : Array Slot), va_P (dC, dI) vwCl (xw ad kI kJ kQ G) H → va_D A (xw ad kI kJ kQ G) → va_S A H0 H locs → xL ad nL lv ls → W p l e R s m args below meth c H locs cells slots Q (F0 m pc ls (st.map (xv ad)))
abbrev xH : Type := List Value → List xE → (List Value → List xE → Prop) → Prop
def xin (i : Int32) (n : Nat) : Bool := (!decide (i < 0)) && decide (i.toNatClampNeg < n)
theorem xin_ok {i : Int32} {n : Nat} (h : xin i n = true) : vp_in i n := by
  unfold xin at h
  simp only [Bool.and_eq_true, Bool.not_eq_true', decide_eq_false_iff_not, decide_eq_true_eq] at h
  rintro (h1 | h1)
  · exact h.1 h1
  · omega
def xnar (ret : Option FieldType) (x : Int32) : Bool := match ret with
  | some .int => true
  | some .boolean => decide (narrow .boolean (.int x) = .int x)
  | _ => false
def xjmp (code : List xI) (t : Int) : List xI := match code with
  | [] => []
  | i :: cs => cond (decide ((i.1 : Int) = t)) (i :: cs) (xjmp cs t)
/-- a jump; out of the list: a stop -/
def xto (code : List xI) (t : Int) (K : Nat → Prop) (go : List xI → Prop) : Prop := match xjmp code t with
  | [] => cond (decide (((t.toNat : Nat) : Int) = t)) (K t.toNat) False
  | i :: cs => go (i :: cs)
def xldi (lv : List (Option Value)) (i : Nat) (K : Int32 → Prop) : Prop := match xnth lv i with
  | some (some (.int x)) => K x
  | _ => False
def xldl (lv : List (Option Value)) (i : Nat) (K : Int64 → Prop) : Prop := match xnth lv i with
  | some (some (.long x)) => K x
  | _ => False
def xlda (lv : List (Option Value)) (i : Nat) (K : Nat → Prop) : Prop := match xnth lv i with
  | some (some (.ref x)) => K x
  | _ => False
def xhas : List Nat → Nat → Bool
  | [], _ => false
  | b :: t, n => (match Nat.beq b n with | true => true | false => xhas t n)
/-- a branch: decided by reckoning, or both ways -/
def xcmp (d : Bool) (cnd : ClassFile.Cond) (x y : Int32) (A B : Prop) : Prop := match d with
  | true => (match cnd with
    | .eq => cond (decide (x = y)) A B
    | .ne => cond (decide (x = y)) B A
    | .lt => cond (decide (x < y)) A B
    | .ge => cond (decide (y ≤ x)) A B
    | .gt => cond (decide (y < x)) A B
    | .le => cond (decide (x ≤ y)) A B)
  | false => (match cnd with
    | .eq => (x = y → A) ∧ (¬ x = y → B)
    | .ne => (x = y → B) ∧ (¬ x = y → A)
    | .lt => (x < y → A) ∧ (¬ x < y → B)
    | .ge => (y ≤ x → A) ∧ (¬ y ≤ x → B)
    | .gt => (y < x → A) ∧ (¬ y < x → B)
    | .le => (x ≤ y → A) ∧ (¬ x ≤ y → B))
def xpick : List Nat → Nat → (Nat → Prop) → Prop
  | [], n, A => A n
  | b :: t, n, A => (match Nat.beq b n with | true => A b | false => xpick t n A)
/-- a place in an array: by reckoning, or to be shown -/
def xidx (d : Bool) (i : Int32) (n : Nat) (A : Nat → Prop) : Prop := match d with
  | true => ∃ j : Nat, i = nI j ∧ j < n ∧ j < 2147483648 ∧ A j
  | false => cond (xin i n) (xpick [0, 1, 2, 3, 4, 5, 6, 7, 8] i.toNatClampNeg A) False
def xone (v : Value) : Bool := Nat.beq v.category 1
/-- one instruction -/
def xstep (code : List xI) (ft : List xF) (ct : List (Nat × Int64)) (oc : List (Nat × xH)) (ret : Option FieldType) (post : Option Value → List xE → Prop) (db sb : List Nat) (K : Nat → List (Option Value) → List Value → List xE → Prop) (go : List xI → List (Option Value) → List Value → List xE → Prop) (pc : Nat) (ins : Instr) (cs : List xI) (lv : List (Option Value)) (st : List Value) (G : List xE) : Prop := match ins with
  | .iconst i => go cs lv (.int (Int32.ofInt i) :: st) G
  | .bipush i => go cs lv (.int (Int8.ofInt i).toInt32 :: st) G
  | .sipush i => go cs lv (.int (Int16.ofInt i).toInt32 :: st) G
  | .lconst n => go cs lv (.long (Int64.ofNat n.val) :: st) G
  | .ldc2_w ix => (match xfind ct ix with | some v => go cs lv (.long v :: st) G | none => False)
  | .iload i => xldi lv i (fun x => go cs lv (.int x :: st) G)
  | .iload_n i => xldi lv i.val (fun x => go cs lv (.int x :: st) G)
  | .lload i => xldl lv i (fun x => go cs lv (.long x :: st) G)
  | .lload_n i => xldl lv i.val (fun x => go cs lv (.long x :: st) G)
  | .aload i => xlda lv i (fun x => go cs lv (.ref x :: st) G)
  | .aload_n i => xlda lv i.val (fun x => go cs lv (.ref x :: st) G)
  | .istore i => (match st with | .int x :: r => xst (.int x) lv i (fun lv => go cs lv r G) | _ => False)
  | .istore_n i => (match st with | .int x :: r => xst (.int x) lv i.val (fun lv => go cs lv r G) | _ => False)
  | .lstore i => (match st with | .long x :: r => xst (.long x) lv i (fun lv => go cs lv r G) | _ => False)
  | .lstore_n i => (match st with | .long x :: r => xst (.long x) lv i.val (fun lv => go cs lv r G) | _ => False)
  | .astore i => (match st with | .ref x :: r => xst (.ref x) lv i (fun lv => go cs lv r G) | _ => False)
  | .astore_n i => (match st with | .ref x :: r => xst (.ref x) lv i.val (fun lv => go cs lv r G) | _ => False)
  | .iinc i k => xldi lv i (fun x => xst (.int (x + Int32.ofInt k)) lv i (fun lv => go cs lv st G))
  | .iadd => (match st with | .int y :: .int x :: r => go cs lv (.int (x + y) :: r) G | _ => False)
  | .isub => (match st with | .int y :: .int x :: r => go cs lv (.int (x - y) :: r) G | _ => False)
  | .imul => (match st with | .int y :: .int x :: r => go cs lv (.int (x * y) :: r) G | _ => False)
  | .iand => (match st with | .int y :: .int x :: r => go cs lv (.int (x &&& y) :: r) G | _ => False)
  | .idiv => (match st with | .int y :: .int x :: r => cond (decide (y = 0)) False (go cs lv (.int (x / y) :: r) G) | _ => False)
  | .irem => (match st with | .int y :: .int x :: r => cond (decide (y = 0)) False (go cs lv (.int (x - x / y * y) :: r) G) | _ => False)
  | .ladd => (match st with | .long y :: .long x :: r => go cs lv (.long (x + y) :: r) G | _ => False)
  | .lsub => (match st with | .long y :: .long x :: r => go cs lv (.long (x - y) :: r) G | _ => False)
  | .lmul => (match st with | .long y :: .long x :: r => go cs lv (.long (x * y) :: r) G | _ => False)
  | .land => (match st with | .long y :: .long x :: r => go cs lv (.long (x &&& y) :: r) G | _ => False)
  | .ldiv => (match st with | .long y :: .long x :: r => ((¬ y = 0) ∧ go cs lv (.long (x / y) :: r) G) | _ => False)
  | .lrem => (match st with | .long y :: .long x :: r => ((¬ y = 0) ∧ go cs lv (.long (x - x / y * y) :: r) G) | _ => False)
  | .lneg => (match st with | .long x :: r => go cs lv (.long (-x) :: r) G | _ => False)
  | .lshr => (match st with | .int y :: .long x :: r => go cs lv (.long (x >>> (y.toInt64 &&& 63)) :: r) G | _ => False)
  | .lcmp => (match st with | .long y :: .long x :: r => go cs lv (.int (lg_cmp x y) :: r) G | _ => False)
  | .i2l => (match st with | .int x :: r => go cs lv (.long x.toInt64 :: r) G | _ => False)
  | .l2i => (match st with | .long x :: r => go cs lv (.int x.toInt32 :: r) G | _ => False)
  | .dup => (match st with | v :: r => cond (xone v) (go cs lv (v :: v :: r) G) False | _ => False)
  | .pop => (match st with | v :: r => cond (xone v) (go cs lv r G) False | _ => False)
  | .dup2 => (match st with | v :: w :: r => cond (xone v && xone w) (go cs lv (v :: w :: v :: w :: r) G) False | _ => False)
  | .ifCond cnd off => (match st with | .int x :: r => xcmp (xhas db pc) cnd x 0 (xto code ((pc : Int) + off) (fun t => K t lv r G) (fun cs => go cs lv r G)) (go cs lv r G) | _ => False)
  | .if_icmp cnd off => (match st with | .int y :: .int x :: r => xcmp (xhas db pc) cnd x y (xto code ((pc : Int) + off) (fun t => K t lv r G) (fun cs => go cs lv r G)) (go cs lv r G) | _ => False)
  | .goto off => xto code ((pc : Int) + off) (fun t => K t lv st G) (fun cs => go cs lv st G)
  | .getfield ix => (match st with
    | .ref k :: r => (match xfind ft ix with
      | some (ci, j, _) => (match xnth G k with
        | some (.inr (ci2, fs)) => cond (Nat.beq ci2 ci) (match xnth fs j with | some v => go cs lv (v :: r) G | none => False) False
        | _ => False)
      | none => False)
    | _ => False)
  | .putfield ix => (match st with
    | .int x :: .ref k :: r => (match xfind ft ix with
      | some (ci, j, 1) => (match xnth G k with
        | some (.inr (ci2, fs)) => cond (Nat.beq ci2 ci) (xset (.int x) fs j (fun fs => xset (.inr (ci2, fs)) G k (fun G => go cs lv r G))) False
        | _ => False)
      | _ => False)
    | .long x :: .ref k :: r => (match xfind ft ix with
      | some (ci, j, 2) => (match xnth G k with
        | some (.inr (ci2, fs)) => cond (Nat.beq ci2 ci) (xset (.long x) fs j (fun fs => xset (.inr (ci2, fs)) G k (fun G => go cs lv r G))) False
        | _ => False)
      | _ => False)
    | _ => False)
  | .iaload => (match st with
    | .int i :: .ref k :: r => (match xnth G k with
      | some (.inl (n, .inl f)) => xidx (xhas sb pc) i n (fun j => go cs lv (.int (f j) :: r) G)
      | _ => False)
    | _ => False)
  | .laload => (match st with
    | .int i :: .ref k :: r => (match xnth G k with
      | some (.inl (n, .inr (.inl f))) => xidx (xhas sb pc) i n (fun j => go cs lv (.long (f j) :: r) G)
      | _ => False)
    | _ => False)
  | .aaload => (match st with
    | .int i :: .ref k :: r => (match xnth G k with
      | some (.inl (n, .inr (.inr (.inr (.inr f))))) => xidx (xhas sb pc) i n (fun j => match f j with | some q => go cs lv (.ref q :: r) G | none => False)
      | _ => False)
    | _ => False)
  | .iastore => (match st with
    | .int x :: .int i :: .ref k :: r => (match xnth G k with
      | some (.inl (n, .inl f)) => xidx (xhas sb pc) i n (fun j => xset (.inl (n, .inl (upd f j x))) G k (fun G => go cs lv r G))
      | _ => False)
    | _ => False)
  | .lastore => (match st with
    | .long x :: .int i :: .ref k :: r => (match xnth G k with
      | some (.inl (n, .inr (.inl f))) => xidx (xhas sb pc) i n (fun j => xset (.inl (n, .inr (.inl (vp_updL f j x)))) G k (fun G => go cs lv r G))
      | _ => False)
    | _ => False)
  | .arraylength => (match st with
    | .ref k :: r => (match xnth G k with
      | some (.inl (n, .inl _)) => go cs lv (.int (Int32.ofNat n) :: r) G
      | some (.inl (n, .inr (.inl _))) => go cs lv (.int (Int32.ofNat n) :: r) G
      | _ => False)
    | _ => False)
  | .invokevirtual ix => (match xfind oc (2 * ix) with | some h => h st G (fun st G => go cs lv st G) | none => K pc lv st G)
  | .invokestatic ix => (match xfind oc (2 * ix + 1) with | some h => h st G (fun st G => go cs lv st G) | none => K pc lv st G)
  | .ireturn => (match st with | [.int x] => (match ret with | some .int => post (some (.int x)) G | some .boolean => (narrow .boolean (.int x) = .int x) ∧ post (some (.int x)) G | _ => False) | _ => False)
  | .lreturn => (match st with | [.long x] => (match ret with | some .long => post (some (.long x)) G | _ => False) | _ => False)
  | .return_ => (match st with | [] => (match ret with | none => post none G | _ => False) | _ => False)
  | _ => K pc lv st G
/-- a stretch of at most n instructions; it stops at the places bp, and at what it can't do -/
def xex (code : List xI) (ft : List xF) (ct : List (Nat × Int64)) (oc : List (Nat × xH)) (ret : Option FieldType) (post : Option Value → List xE → Prop) (K : Nat → List (Option Value) → List Value → List xE → Prop) (bp db sb : List Nat) : Nat → Bool → List xI → List (Option Value) → List Value → List xE → Prop
  | _, _, [], _, _, _ => False
  | 0, _, i :: _, lv, st, G => K i.1 lv st G
  | n + 1, fr, (pc, ins, _) :: cs, lv, st, G => (match fr && xhas bp pc with | true => K pc lv st G | false => xstep code ft ct oc ret post db sb K (xex code ft ct oc ret post K bp db sb n true) pc ins cs lv st G)
