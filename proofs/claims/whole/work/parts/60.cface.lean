/-! the class itself -/
def gmapC : Nat → Option Nat := xnth [14, 15, 16, 17, 18, 19, 20, 21]
def fmapC : Nat → Option Nat := xnth [23, 24, 25]
def tmapC : Nat → Option Nat := xnth [27, 28, 29]
def GC (n1 : Int32) (so ce : Nat → Int32) (n2 : Int32) (mso mce : Nat → Int32) (n3 : Int32) (rme : Nat → Int32) (n4 : Int32) (sme : Nat → Int32) (n5 : Int32) (mks : Nat → Int32) (q : Nat → Nat → Int) (f0 f1 f2 t0 t1 t2 we pa iv tu fo hal : Nat → Int64) (n6 : Int32) (va le mi co fr : Nat → Int64) (n7 : Int32) (eso ece : Nat → Int32) (be af bo tr sx fi se re p3 q3 r3 s3 : Nat → Int64) : List xE := [.inr (6, [.ref 1, .ref 4, .ref 7, .ref 9, .ref 11, .ref 32, .ref 37, .ref 43, .ref 50, .ref 51, .ref 52, .ref 53, .ref 54, .ref 55, .ref 56, .ref 57, .ref 58]), .inr (5, [.ref 2, .ref 3, .int (nI 60), .int (n1)]), .inl (60, .inl (so)), .inl (540, .inl (ce)), .inr (5, [.ref 5, .ref 6, .int (nI 40), .int (n2)]), .inl (60, .inl (mso)), .inl (540, .inl (mce)), .inr (2, [.ref 8, .int (nI 8), .int (n3)]), .inl (8, .inl (rme)), .inr (2, [.ref 10, .int (nI 4), .int (n4)]), .inl (8, .inl (sme)), .inr (3, [.ref 12, .ref 13, .ref 22, .ref 26, .ref 30, .ref 31, .int n5]), .inl (8, .inl mks), .inl (8, .inr (.inr (.inr (.inr (gmapC))))), .inl (3, .inr (.inl (fun i => zl (q 0 i)))), .inl (3, .inr (.inl (fun i => zl (q 1 i)))), .inl (3, .inr (.inl (fun i => zl (q 2 i)))), .inl (3, .inr (.inl (fun i => zl (q 3 i)))), .inl (3, .inr (.inl (fun i => zl (q 4 i)))), .inl (3, .inr (.inl (fun i => zl (q 5 i)))), .inl (3, .inr (.inl (fun i => zl (q 6 i)))), .inl (3, .inr (.inl (fun i => zl (q 7 i)))), .inl (3, .inr (.inr (.inr (.inr (fmapC))))), .inl (3, .inr (.inl (f0))), .inl (3, .inr (.inl (f1))), .inl (3, .inr (.inl (f2))), .inl (3, .inr (.inr (.inr (.inr (tmapC))))), .inl (3, .inr (.inl (t0))), .inl (3, .inr (.inl (t1))), .inl (3, .inr (.inl (t2))), .inl (3, .inr (.inl (we))), .inl (2, .inr (.inl (pa))), .inr (1, [.ref 33, .ref 34, .ref 35, .ref 36]), .inl (9, .inr (.inl (iv))), .inl (9, .inr (.inl (tu))), .inl (9, .inr (.inl (fo))), .inl (9, .inr (.inl (hal))), .inr (4, [.ref 38, .ref 39, .ref 40, .ref 41, .ref 42, .int n6]), .inl (3, .inr (.inl (va))), .inl (9, .inr (.inl (le))), .inl (9, .inr (.inl (mi))), .inl (9, .inr (.inl (co))), .inl (3, .inr (.inl (fr))), .inr (0, [.ref 44, .ref 47, .ref 48, .ref 49]), .inr (5, [.ref 45, .ref 46, .int (nI 48), .int (n7)]), .inl (60, .inl (eso)), .inl (540, .inl (ece)), .inl (9, .inr (.inl (be))), .inl (9, .inr (.inl (af))), .inl (9, .inr (.inl (bo))), .inl (3, .inr (.inl (tr))), .inl (6, .inr (.inl (sx))), .inl (9, .inr (.inl (fi))), .inl (9, .inr (.inl (se))), .inl (9, .inr (.inl (re))), .inl (3, .inr (.inl (p3))), .inl (3, .inr (.inl (q3))), .inl (3, .inr (.inl (r3))), .inl (3, .inr (.inl (s3)))]
def CInv (S : SS) (G : List xE) : Prop := ∃ so ce mso mce rme sme n5 mks q f0 f1 f2 t0 t1 t2 we pa iv tu fo hal n6 va le mi co fr eso ece be af bo tr sx fi se re p3 q3 r3 s3, G = (GC (nI S.1.1) so ce (nI S.2.1.1) mso mce (nI S.2.2.1.1) rme (nI S.2.2.2.1.1) sme n5 mks q f0 f1 f2 t0 t1 t2 we pa iv tu fo hal n6 va le mi co fr (nI S.2.2.2.2.1) eso ece be af bo tr sx fi se re p3 q3 r3 s3) ∧ RH S.1 so ce ∧ (∀ k, k < S.1.1 → S.1.2.1 k ≤ 2) ∧ RH (toO S.2.1) mso mce ∧ S.2.1.1 ≤ 40 ∧ RV 8 S.1.1 S.2.2.1 rme ∧ RV 4 S.2.1.1 S.2.2.2.1 sme ∧ RH (toO S.2.2.2.2) eso ece ∧ S.2.2.2.2.1 ≤ 48 ∧ 1 ≤ S.2.2.2.2.1
def xwr {α : Type} (v : α) : List α → Nat → List α
  | [], _ => []
  | _ :: t, 0 => v :: t
  | h :: t, n + 1 => h :: xwr v t n
theorem xsames_rf : ∀ G : List xE, xsames G G
  | [] => trivial
  | e :: t => ⟨xsame_rf e, xsames_rf t⟩
theorem xsames_st {e e2 : xE} (h : xsame e e2) : ∀ {G : List xE} {j : Nat}, xnth G j = some e → xsames G (xwr e2 G j)
  | [], j, hj => by simp [xnth] at hj
  | a :: t, 0, hj => by
    simp [xnth] at hj
    subst hj
    exact ⟨h, xsames_rf t⟩
  | a :: t, n + 1, hj => ⟨xsame_rf a, xsames_st h (G := t) (j := n) hj⟩
/-- the contents of one array of longs alike below its length -/
theorem xR.alikeL {l : Launch} {own : String} {cc : ByteArray} {R : Room} {ret : Option FieldType} {post : Option Value → List xE → Prop} {nL : Nat} {X : Nat → List (Option Value) → List Value → List xE → Prop} (h : xR l own cc R ret post nL X) {pc : Nat} {lv : List (Option Value)} {st : List Value} {G : List xE} (j : Nat) {n : Nat} {f : Nat → Int64} (g : Nat → Int64) (hG : xnth G j = some (.inl (n, .inr (.inl f)))) (hfg : ∀ i, i < n → f i = g i) (hx : X pc lv st (xwr (.inl (n, .inr (.inl g))) G j)) : X pc lv st G :=
  h.alike hx (xsames_st (e := .inl (n, .inr (.inl f))) (e2 := .inl (n, .inr (.inl g))) ⟨rfl, hfg⟩ hG)
theorem lrowN_bd {z : Nat → Int} {n : Nat} (h : fit z n n = true) (i : Nat) (hi : i < n) : ab (lrow z n i) 500 := by
  rw [lrow_lt hi]
  exact fit_le h i hi
theorem addO_kp {S : SO} (h : S.1 ≤ 60) (s n : Nat) (z : Nat → Int) : addO S s n z = if fit z n n then kpO 60 S s n (lrow z n) else (-4, S) := by
  unfold addO kpO
  split
  · cases fnd (hitO S.2.1 S.2.2 s n (lrow z n)) S.1 0 with
    | some k => rfl
    | none =>
      dsimp only
      by_cases e : S.1 = 60
      · rw [if_pos e, if_pos (by omega)]
      · rw [if_neg e, if_neg (by omega)]
  · rfl
theorem addM_kp {M : SM} (h : M.1 ≤ 40) (z : Nat → Int) : ((addM M z).1, toO (addM M z).2) = if fit z 9 9 then kpO 40 (toO M) 3 9 (lrow z 9) else (-4, toO M) := by
  rw [kpM]
  unfold addM
  split
  · cases fnd (hitM M.2 (lrow z 9)) M.1 0 with
    | some k => rfl
    | none =>
      dsimp only
      by_cases e : M.1 = 40
      · rw [if_pos e, if_pos (by omega)]
      · rw [if_neg e, if_neg (by omega)]
  · rfl
theorem addM_40 {M : SM} (h : M.1 ≤ 40) (z : Nat → Int) : (addM M z).2.1 ≤ 40 := by
  unfold addM
  split
  · cases fnd (hitM M.2 (lrow z 9)) M.1 0 with
    | some k => exact h
    | none =>
      dsimp only
      by_cases e : M.1 = 40
      · rw [if_pos e]; exact h
      · rw [if_neg e]; show M.1 + 1 ≤ 40; omega
  · exact h
def spG (S : SO) (s N : Nat) (z : Nat → Int) : Int × SO := if alB (fun i => !decide (z i < -500 ∨ 500 < z i)) N then (if alB (fun i => decide (z i = 0)) N then (-3, S) else addO S s N z) else (-2, S)
theorem spG_3 (S : SO) (s : Nat) (a b c : Int) : spG S s 3 (vec3 a b c) = sp3 S s a b c := by
  unfold spG sp3
  have e1 : alB (fun i => !decide (vec3 a b c i < -500 ∨ 500 < vec3 a b c i)) 3 = true ↔ (-500 ≤ a ∧ a ≤ 500) ∧ (-500 ≤ b ∧ b ≤ 500) ∧ (-500 ≤ c ∧ c ≤ 500) := by
    simp [alB, vec3]
    omega
  have e2 : alB (fun i => decide (vec3 a b c i = 0)) 3 = true ↔ a = 0 ∧ b = 0 ∧ c = 0 := by
    simp [alB, vec3, and_assoc]
  simp only [e1, e2]
theorem spG_6 (S : SO) (a b c d e f : Int) : spG S 2 6 (vec6 a b c d e f) = sp6 S a b c d e f := by
  unfold spG sp6
  have e1 : alB (fun i => !decide (vec6 a b c d e f i < -500 ∨ 500 < vec6 a b c d e f i)) 6 = true ↔ (-500 ≤ a ∧ a ≤ 500) ∧ (-500 ≤ b ∧ b ≤ 500) ∧ (-500 ≤ c ∧ c ≤ 500) ∧ (-500 ≤ d ∧ d ≤ 500) ∧ (-500 ≤ e ∧ e ≤ 500) ∧ (-500 ≤ f ∧ f ≤ 500) := by
    simp [alB, vec6]
    omega
  have e2 : alB (fun i => decide (vec6 a b c d e f i = 0)) 6 = true ↔ a = 0 ∧ b = 0 ∧ c = 0 ∧ d = 0 ∧ e = 0 ∧ f = 0 := by
    simp [alB, vec6, and_assoc]
  simp only [e1, e2]
set_option maxHeartbeats 4000000 in
set_option maxRecDepth 100000 in
theorem k_keepObj_tr (l : Launch) (so ce : Nat → Int32) (n2 : Int32) (mso mce : Nat → Int32) (n3 : Int32) (rme : Nat → Int32) (n4 : Int32) (sme : Nat → Int32) (n5 : Int32) (mks : Nat → Int32) (q : Nat → Nat → Int) (f0 f1 f2 t0 t1 t2 we pa iv tu fo hal : Nat → Int64) (n6 : Int32) (va le mi co fr : Nat → Int64) (n7 : Int32) (eso ece : Nat → Int32) (be af bo sx fi se re p3 q3 r3 s3 : Nat → Int64) (S : SO) (hS : RH S so ce) (s : Nat) (hs : s ≤ 2) (hw : 3 = wd s) (z : Nat → Int) (hz : ∀ i, i < 3 → jr (z i)) (hg : gN z 3 ≠ 0) : xM l yX10_keepObject cX10_keepObject 3 (some .int) rX10_keepObject [.ref 0, .int (nI s), .ref 50] (GC (nI S.1) so ce n2 mso mce n3 rme n4 sme n5 mks q f0 f1 f2 t0 t1 t2 we pa iv tu fo hal n6 va le mi co fr n7 eso ece be af bo (fun i => zl (z i)) sx fi se re p3 q3 r3 s3) (fun r G => ∃ so' ce' x', r = some (.int (zi (addO S s 3 z).1)) ∧ RH (addO S s 3 z).2 so' ce' ∧ G = (GC (nI (addO S s 3 z).2.1) so' ce' n2 mso mce n3 rme n4 sme n5 mks q f0 f1 f2 t0 t1 t2 we pa iv tu fo hal n6 va le mi co fr n7 eso ece be af bo x' sx fi se re p3 q3 r3 s3)) := by
  refine xM.of (by decide) (Nat.le_of_ble_eq_true rfl) (fun X hX => ?_)
  have ek := addO_kp hS.1 s 3 z
  have no : fit z 3 3 = false → ∃ so' ce' x', some (Value.int (zi (-4))) = some (.int (zi (addO S s 3 z).1)) ∧ RH (addO S s 3 z).2 so' ce' ∧ (GC (nI S.1) so ce n2 mso mce n3 rme n4 sme n5 mks q f0 f1 f2 t0 t1 t2 we pa iv tu fo hal n6 va le mi co fr n7 eso ece be af bo (fun i => zl (lst z 3 i)) sx fi se re p3 q3 r3 s3) = (GC (nI (addO S s 3 z).2.1) so' ce' n2 mso mce n3 rme n4 sme n5 mks q f0 f1 f2 t0 t1 t2 we pa iv tu fo hal n6 va le mi co fr n7 eso ece be af bo x' sx fi se re p3 q3 r3 s3) := by
    intro h
    rw [ek, h]
    exact ⟨so, ce, _, rfl, hS, rfl⟩
  have ye : fit z 3 3 = true → ∀ so2 ce2, RH (kpO 60 S s 3 (lrow z 3)).2 so2 ce2 → ∃ so' ce' x', some (Value.int (zi (kpO 60 S s 3 (lrow z 3)).1)) = some (.int (zi (addO S s 3 z).1)) ∧ RH (addO S s 3 z).2 so' ce' ∧ (GC (nI (kpO 60 S s 3 (lrow z 3)).2.1) so2 ce2 n2 mso mce n3 rme n4 sme n5 mks q f0 f1 f2 t0 t1 t2 we pa iv tu fo hal n6 va le mi co fr n7 eso ece be af bo (fun i => zl (lrow z 3 i)) sx fi se re p3 q3 r3 s3) = (GC (nI (addO S s 3 z).2.1) so' ce' n2 mso mce n3 rme n4 sme n5 mks q f0 f1 f2 t0 t1 t2 we pa iv tu fo hal n6 va le mi co fr n7 eso ece be af bo x' sx fi se re p3 q3 r3 s3) := by
    intro h so2 ce2 q2
    rw [ek, h]
    exact ⟨so2, ce2, _, rfl, q2, rfl⟩
  refine hX.run (ft := ftX10) (ct := ctX10) (oc := []) kX10_keepObject_ok ftX10_ok ctX10_ok xnoc [] [] [] 100 ?_
  refine hX.callS [50] [] (k_reduce l 3 (by omega) 500 (by exact ⟨by omega, by omega⟩) z hz hg) yX3_reduce_ok lkX10_219 ssX3_reduce ⟨rfl, rfl, by decide, by decide⟩ (kX10_keepObject_ok.at 4 rfl) rfl rfl (by decide) ⟨rfl, trivial⟩ rfl (fun _ _ q => by rw [q.2]; rfl) (fun r9 G1 q => ?_)
  obtain ⟨rfl, rfl⟩ := q
  rw [fitM_5]
  refine hX.run (ft := ftX10) (ct := ctX10) (oc := []) kX10_keepObject_ok ftX10_ok ctX10_ok xnoc [] [] [] 100 ?_
  refine ⟨fun h => no (bI_0.mp h), fun h => ?_⟩
  have hf := bI_t h
  refine hX.alikeL 50 (n := 3) (fun i => zl (lrow z 3 i)) rfl (fun i hi => ?_) ?_
  · show zl _ = zl _
    rw [lrow_lt hi]
  refine hX.run (ft := ftX10) (ct := ctX10) (oc := []) kX10_keepObject_ok ftX10_ok ctX10_ok xnoc [] [] [] 100 ?_
  refine hX.callV [1, 2, 3, 50] [] (k_keep l S 60 so ce (by omega) hS hS.1 s (by omega) 3 hw (lrow z 3) (lrowN_bd hf)) yX8_keep_ok lkX10_240 ivX8_keep slX8_keep ⟨rfl, rfl, by decide, by decide⟩ (kX10_keepObject_ok.at 16 rfl) rfl rfl (by decide) rfl rfl rfl ⟨rfl, rfl, rfl, rfl, trivial⟩ rfl (fun _ _ q => by obtain ⟨_, _, -, -, rfl⟩ := q; rfl) (fun r9 G1 q => ?_)
  obtain ⟨so2, ce2, rfl, q2, rfl⟩ := q
  refine hX.run (ft := ftX10) (ct := ctX10) (oc := []) kX10_keepObject_ok ftX10_ok ctX10_ok xnoc [] [] [] 100 ?_
  exact ye hf so2 ce2 q2
set_option maxHeartbeats 4000000 in
set_option maxRecDepth 100000 in
theorem k_keepObj_sx (l : Launch) (so ce : Nat → Int32) (n2 : Int32) (mso mce : Nat → Int32) (n3 : Int32) (rme : Nat → Int32) (n4 : Int32) (sme : Nat → Int32) (n5 : Int32) (mks : Nat → Int32) (q : Nat → Nat → Int) (f0 f1 f2 t0 t1 t2 we pa iv tu fo hal : Nat → Int64) (n6 : Int32) (va le mi co fr : Nat → Int64) (n7 : Int32) (eso ece : Nat → Int32) (be af bo tr fi se re p3 q3 r3 s3 : Nat → Int64) (S : SO) (hS : RH S so ce) (s : Nat) (hs : s ≤ 2) (hw : 6 = wd s) (z : Nat → Int) (hz : ∀ i, i < 6 → jr (z i)) (hg : gN z 6 ≠ 0) : xM l yX10_keepObject cX10_keepObject 3 (some .int) rX10_keepObject [.ref 0, .int (nI s), .ref 51] (GC (nI S.1) so ce n2 mso mce n3 rme n4 sme n5 mks q f0 f1 f2 t0 t1 t2 we pa iv tu fo hal n6 va le mi co fr n7 eso ece be af bo tr (fun i => zl (z i)) fi se re p3 q3 r3 s3) (fun r G => ∃ so' ce' x', r = some (.int (zi (addO S s 6 z).1)) ∧ RH (addO S s 6 z).2 so' ce' ∧ G = (GC (nI (addO S s 6 z).2.1) so' ce' n2 mso mce n3 rme n4 sme n5 mks q f0 f1 f2 t0 t1 t2 we pa iv tu fo hal n6 va le mi co fr n7 eso ece be af bo tr x' fi se re p3 q3 r3 s3)) := by
  refine xM.of (by decide) (Nat.le_of_ble_eq_true rfl) (fun X hX => ?_)
  have ek := addO_kp hS.1 s 6 z
  have no : fit z 6 6 = false → ∃ so' ce' x', some (Value.int (zi (-4))) = some (.int (zi (addO S s 6 z).1)) ∧ RH (addO S s 6 z).2 so' ce' ∧ (GC (nI S.1) so ce n2 mso mce n3 rme n4 sme n5 mks q f0 f1 f2 t0 t1 t2 we pa iv tu fo hal n6 va le mi co fr n7 eso ece be af bo tr (fun i => zl (lst z 6 i)) fi se re p3 q3 r3 s3) = (GC (nI (addO S s 6 z).2.1) so' ce' n2 mso mce n3 rme n4 sme n5 mks q f0 f1 f2 t0 t1 t2 we pa iv tu fo hal n6 va le mi co fr n7 eso ece be af bo tr x' fi se re p3 q3 r3 s3) := by
    intro h
    rw [ek, h]
    exact ⟨so, ce, _, rfl, hS, rfl⟩
  have ye : fit z 6 6 = true → ∀ so2 ce2, RH (kpO 60 S s 6 (lrow z 6)).2 so2 ce2 → ∃ so' ce' x', some (Value.int (zi (kpO 60 S s 6 (lrow z 6)).1)) = some (.int (zi (addO S s 6 z).1)) ∧ RH (addO S s 6 z).2 so' ce' ∧ (GC (nI (kpO 60 S s 6 (lrow z 6)).2.1) so2 ce2 n2 mso mce n3 rme n4 sme n5 mks q f0 f1 f2 t0 t1 t2 we pa iv tu fo hal n6 va le mi co fr n7 eso ece be af bo tr (fun i => zl (lrow z 6 i)) fi se re p3 q3 r3 s3) = (GC (nI (addO S s 6 z).2.1) so' ce' n2 mso mce n3 rme n4 sme n5 mks q f0 f1 f2 t0 t1 t2 we pa iv tu fo hal n6 va le mi co fr n7 eso ece be af bo tr x' fi se re p3 q3 r3 s3) := by
    intro h so2 ce2 q2
    rw [ek, h]
    exact ⟨so2, ce2, _, rfl, q2, rfl⟩
  refine hX.run (ft := ftX10) (ct := ctX10) (oc := []) kX10_keepObject_ok ftX10_ok ctX10_ok xnoc [] [] [] 100 ?_
  refine hX.callS [51] [] (k_reduce l 6 (by omega) 500 (by exact ⟨by omega, by omega⟩) z hz hg) yX3_reduce_ok lkX10_219 ssX3_reduce ⟨rfl, rfl, by decide, by decide⟩ (kX10_keepObject_ok.at 4 rfl) rfl rfl (by decide) ⟨rfl, trivial⟩ rfl (fun _ _ q => by rw [q.2]; rfl) (fun r9 G1 q => ?_)
  obtain ⟨rfl, rfl⟩ := q
  rw [fitM_5]
  refine hX.run (ft := ftX10) (ct := ctX10) (oc := []) kX10_keepObject_ok ftX10_ok ctX10_ok xnoc [] [] [] 100 ?_
  refine ⟨fun h => no (bI_0.mp h), fun h => ?_⟩
  have hf := bI_t h
  refine hX.alikeL 51 (n := 6) (fun i => zl (lrow z 6 i)) rfl (fun i hi => ?_) ?_
  · show zl _ = zl _
    rw [lrow_lt hi]
  refine hX.run (ft := ftX10) (ct := ctX10) (oc := []) kX10_keepObject_ok ftX10_ok ctX10_ok xnoc [] [] [] 100 ?_
  refine hX.callV [1, 2, 3, 51] [] (k_keep l S 60 so ce (by omega) hS hS.1 s (by omega) 6 hw (lrow z 6) (lrowN_bd hf)) yX8_keep_ok lkX10_240 ivX8_keep slX8_keep ⟨rfl, rfl, by decide, by decide⟩ (kX10_keepObject_ok.at 16 rfl) rfl rfl (by decide) rfl rfl rfl ⟨rfl, rfl, rfl, rfl, trivial⟩ rfl (fun _ _ q => by obtain ⟨_, _, -, -, rfl⟩ := q; rfl) (fun r9 G1 q => ?_)
  obtain ⟨so2, ce2, rfl, q2, rfl⟩ := q
  refine hX.run (ft := ftX10) (ct := ctX10) (oc := []) kX10_keepObject_ok ftX10_ok ctX10_ok xnoc [] [] [] 100 ?_
  exact ye hf so2 ce2 q2
set_option maxHeartbeats 4000000 in
set_option maxRecDepth 100000 in
theorem k_keepObj_fr (l : Launch) (so ce : Nat → Int32) (n2 : Int32) (mso mce : Nat → Int32) (n3 : Int32) (rme : Nat → Int32) (n4 : Int32) (sme : Nat → Int32) (n5 : Int32) (mks : Nat → Int32) (q : Nat → Nat → Int) (f0 f1 f2 t0 t1 t2 we pa iv tu fo hal : Nat → Int64) (n6 : Int32) (va le mi co : Nat → Int64) (n7 : Int32) (eso ece : Nat → Int32) (be af bo tr sx fi se re p3 q3 r3 s3 : Nat → Int64) (S : SO) (hS : RH S so ce) (s : Nat) (hs : s ≤ 2) (hw : 3 = wd s) (z : Nat → Int) (hz : ∀ i, i < 3 → jr (z i)) (hg : gN z 3 ≠ 0) : xM l yX10_keepObject cX10_keepObject 3 (some .int) rX10_keepObject [.ref 0, .int (nI s), .ref 42] (GC (nI S.1) so ce n2 mso mce n3 rme n4 sme n5 mks q f0 f1 f2 t0 t1 t2 we pa iv tu fo hal n6 va le mi co (fun i => zl (z i)) n7 eso ece be af bo tr sx fi se re p3 q3 r3 s3) (fun r G => ∃ so' ce' x', r = some (.int (zi (addO S s 3 z).1)) ∧ RH (addO S s 3 z).2 so' ce' ∧ G = (GC (nI (addO S s 3 z).2.1) so' ce' n2 mso mce n3 rme n4 sme n5 mks q f0 f1 f2 t0 t1 t2 we pa iv tu fo hal n6 va le mi co x' n7 eso ece be af bo tr sx fi se re p3 q3 r3 s3)) := by
  refine xM.of (by decide) (Nat.le_of_ble_eq_true rfl) (fun X hX => ?_)
  have ek := addO_kp hS.1 s 3 z
  have no : fit z 3 3 = false → ∃ so' ce' x', some (Value.int (zi (-4))) = some (.int (zi (addO S s 3 z).1)) ∧ RH (addO S s 3 z).2 so' ce' ∧ (GC (nI S.1) so ce n2 mso mce n3 rme n4 sme n5 mks q f0 f1 f2 t0 t1 t2 we pa iv tu fo hal n6 va le mi co (fun i => zl (lst z 3 i)) n7 eso ece be af bo tr sx fi se re p3 q3 r3 s3) = (GC (nI (addO S s 3 z).2.1) so' ce' n2 mso mce n3 rme n4 sme n5 mks q f0 f1 f2 t0 t1 t2 we pa iv tu fo hal n6 va le mi co x' n7 eso ece be af bo tr sx fi se re p3 q3 r3 s3) := by
    intro h
    rw [ek, h]
    exact ⟨so, ce, _, rfl, hS, rfl⟩
  have ye : fit z 3 3 = true → ∀ so2 ce2, RH (kpO 60 S s 3 (lrow z 3)).2 so2 ce2 → ∃ so' ce' x', some (Value.int (zi (kpO 60 S s 3 (lrow z 3)).1)) = some (.int (zi (addO S s 3 z).1)) ∧ RH (addO S s 3 z).2 so' ce' ∧ (GC (nI (kpO 60 S s 3 (lrow z 3)).2.1) so2 ce2 n2 mso mce n3 rme n4 sme n5 mks q f0 f1 f2 t0 t1 t2 we pa iv tu fo hal n6 va le mi co (fun i => zl (lrow z 3 i)) n7 eso ece be af bo tr sx fi se re p3 q3 r3 s3) = (GC (nI (addO S s 3 z).2.1) so' ce' n2 mso mce n3 rme n4 sme n5 mks q f0 f1 f2 t0 t1 t2 we pa iv tu fo hal n6 va le mi co x' n7 eso ece be af bo tr sx fi se re p3 q3 r3 s3) := by
    intro h so2 ce2 q2
    rw [ek, h]
    exact ⟨so2, ce2, _, rfl, q2, rfl⟩
  refine hX.run (ft := ftX10) (ct := ctX10) (oc := []) kX10_keepObject_ok ftX10_ok ctX10_ok xnoc [] [] [] 100 ?_
  refine hX.callS [42] [] (k_reduce l 3 (by omega) 500 (by exact ⟨by omega, by omega⟩) z hz hg) yX3_reduce_ok lkX10_219 ssX3_reduce ⟨rfl, rfl, by decide, by decide⟩ (kX10_keepObject_ok.at 4 rfl) rfl rfl (by decide) ⟨rfl, trivial⟩ rfl (fun _ _ q => by rw [q.2]; rfl) (fun r9 G1 q => ?_)
  obtain ⟨rfl, rfl⟩ := q
  rw [fitM_5]
  refine hX.run (ft := ftX10) (ct := ctX10) (oc := []) kX10_keepObject_ok ftX10_ok ctX10_ok xnoc [] [] [] 100 ?_
  refine ⟨fun h => no (bI_0.mp h), fun h => ?_⟩
  have hf := bI_t h
  refine hX.alikeL 42 (n := 3) (fun i => zl (lrow z 3 i)) rfl (fun i hi => ?_) ?_
  · show zl _ = zl _
    rw [lrow_lt hi]
  refine hX.run (ft := ftX10) (ct := ctX10) (oc := []) kX10_keepObject_ok ftX10_ok ctX10_ok xnoc [] [] [] 100 ?_
  refine hX.callV [1, 2, 3, 42] [] (k_keep l S 60 so ce (by omega) hS hS.1 s (by omega) 3 hw (lrow z 3) (lrowN_bd hf)) yX8_keep_ok lkX10_240 ivX8_keep slX8_keep ⟨rfl, rfl, by decide, by decide⟩ (kX10_keepObject_ok.at 16 rfl) rfl rfl (by decide) rfl rfl rfl ⟨rfl, rfl, rfl, rfl, trivial⟩ rfl (fun _ _ q => by obtain ⟨_, _, -, -, rfl⟩ := q; rfl) (fun r9 G1 q => ?_)
  obtain ⟨so2, ce2, rfl, q2, rfl⟩ := q
  refine hX.run (ft := ftX10) (ct := ctX10) (oc := []) kX10_keepObject_ok ftX10_ok ctX10_ok xnoc [] [] [] 100 ?_
  exact ye hf so2 ce2 q2
set_option maxHeartbeats 4000000 in
set_option maxRecDepth 100000 in
theorem k_keepMap (l : Launch) (n1 : Int32) (so ce mso mce : Nat → Int32) (n3 : Int32) (rme : Nat → Int32) (n4 : Int32) (sme : Nat → Int32) (n5 : Int32) (mks : Nat → Int32) (q : Nat → Nat → Int) (f0 f1 f2 t0 t1 t2 we pa iv tu fo hal : Nat → Int64) (n6 : Int32) (va le mi co fr : Nat → Int64) (n7 : Int32) (eso ece : Nat → Int32) (be af bo tr sx fi se p3 q3 r3 s3 : Nat → Int64) (M : SM) (hM : RH (toO M) mso mce) (hM4 : M.1 ≤ 40) (z : Nat → Int) (hz : ∀ i, i < 9 → jr (z i)) (hg : gN z 9 ≠ 0) : xM l yX10_keepMap cX10_keepMap 2 (some .int) rX10_keepMap [.ref 0, .ref 54] (GC n1 so ce (nI M.1) mso mce n3 rme n4 sme n5 mks q f0 f1 f2 t0 t1 t2 we pa iv tu fo hal n6 va le mi co fr n7 eso ece be af bo tr sx fi se (fun i => zl (z i)) p3 q3 r3 s3) (fun r G => ∃ so' ce' x', r = some (.int (zi (addM M z).1)) ∧ RH (toO (addM M z).2) so' ce' ∧ G = (GC n1 so ce (nI (addM M z).2.1) so' ce' n3 rme n4 sme n5 mks q f0 f1 f2 t0 t1 t2 we pa iv tu fo hal n6 va le mi co fr n7 eso ece be af bo tr sx fi se x' p3 q3 r3 s3)) := by
  refine xM.of (by decide) (Nat.le_of_ble_eq_true rfl) (fun X hX => ?_)
  have ek := addM_kp hM4 z
  have no : fit z 9 9 = false → ∃ so' ce' x', some (Value.int (zi (-4))) = some (.int (zi (addM M z).1)) ∧ RH (toO (addM M z).2) so' ce' ∧ (GC n1 so ce (nI M.1) mso mce n3 rme n4 sme n5 mks q f0 f1 f2 t0 t1 t2 we pa iv tu fo hal n6 va le mi co fr n7 eso ece be af bo tr sx fi se (fun i => zl (lst z 9 i)) p3 q3 r3 s3) = (GC n1 so ce (nI (addM M z).2.1) so' ce' n3 rme n4 sme n5 mks q f0 f1 f2 t0 t1 t2 we pa iv tu fo hal n6 va le mi co fr n7 eso ece be af bo tr sx fi se x' p3 q3 r3 s3) := by
    intro h
    rw [h] at ek
    have e1 : (addM M z).1 = -4 := congrArg Prod.fst ek
    have e2 : toO (addM M z).2 = toO M := congrArg Prod.snd ek
    have e3 : (addM M z).2.1 = M.1 := congrArg (fun q : SO => q.1) e2
    rw [e1, e2, e3]
    exact ⟨mso, mce, _, rfl, hM, rfl⟩
  have ye : fit z 9 9 = true → ∀ so2 ce2, RH (kpO 40 (toO M) 3 9 (lrow z 9)).2 so2 ce2 → ∃ so' ce' x', some (Value.int (zi (kpO 40 (toO M) 3 9 (lrow z 9)).1)) = some (.int (zi (addM M z).1)) ∧ RH (toO (addM M z).2) so' ce' ∧ (GC n1 so ce (nI (kpO 40 (toO M) 3 9 (lrow z 9)).2.1) so2 ce2 n3 rme n4 sme n5 mks q f0 f1 f2 t0 t1 t2 we pa iv tu fo hal n6 va le mi co fr n7 eso ece be af bo tr sx fi se (fun i => zl (lrow z 9 i)) p3 q3 r3 s3) = (GC n1 so ce (nI (addM M z).2.1) so' ce' n3 rme n4 sme n5 mks q f0 f1 f2 t0 t1 t2 we pa iv tu fo hal n6 va le mi co fr n7 eso ece be af bo tr sx fi se x' p3 q3 r3 s3) := by
    intro h so2 ce2 q2
    rw [h] at ek
    have e1 : (addM M z).1 = (kpO 40 (toO M) 3 9 (lrow z 9)).1 := congrArg Prod.fst ek
    have e2 : toO (addM M z).2 = (kpO 40 (toO M) 3 9 (lrow z 9)).2 := congrArg Prod.snd ek
    have e3 : (addM M z).2.1 = (kpO 40 (toO M) 3 9 (lrow z 9)).2.1 := congrArg (fun q : SO => q.1) e2
    rw [e1, e2, e3]
    exact ⟨so2, ce2, _, rfl, q2, rfl⟩
  refine hX.run (ft := ftX10) (ct := ctX10) (oc := []) kX10_keepMap_ok ftX10_ok ctX10_ok xnoc [] [] [] 100 ?_
  refine hX.callS [54] [] (k_reduce l 9 (by omega) 500 (by exact ⟨by omega, by omega⟩) z hz hg) yX3_reduce_ok lkX10_219 ssX3_reduce ⟨rfl, rfl, by decide, by decide⟩ (kX10_keepMap_ok.at 4 rfl) rfl rfl (by decide) ⟨rfl, trivial⟩ rfl (fun _ _ q => by rw [q.2]; rfl) (fun r9 G1 q => ?_)
  obtain ⟨rfl, rfl⟩ := q
  rw [fitM_5]
  refine hX.run (ft := ftX10) (ct := ctX10) (oc := []) kX10_keepMap_ok ftX10_ok ctX10_ok xnoc [] [] [] 100 ?_
  refine ⟨fun h => no (bI_0.mp h), fun h => ?_⟩
  have hf := bI_t h
  refine hX.alikeL 54 (n := 9) (fun i => zl (lrow z 9 i)) rfl (fun i hi => ?_) ?_
  · show zl _ = zl _
    rw [lrow_lt hi]
  refine hX.run (ft := ftX10) (ct := ctX10) (oc := []) kX10_keepMap_ok ftX10_ok ctX10_ok xnoc [] [] [] 100 ?_
  refine hX.callV [4, 5, 6, 54] [] (k_keep l (toO M) 40 mso mce (by omega) hM hM4 3 (by omega) 9 rfl (lrow z 9) (lrow_bd hf)) yX8_keep_ok lkX10_240 ivX8_keep slX8_keep ⟨rfl, rfl, by decide, by decide⟩ (kX10_keepMap_ok.at 16 rfl) rfl rfl (by decide) rfl rfl rfl ⟨rfl, rfl, rfl, rfl, trivial⟩ rfl (fun _ _ q => by obtain ⟨_, _, -, -, rfl⟩ := q; rfl) (fun r9 G1 q => ?_)
  obtain ⟨so2, ce2, rfl, q2, rfl⟩ := q
  refine hX.run (ft := ftX10) (ct := ctX10) (oc := []) kX10_keepMap_ok ftX10_ok ctX10_ok xnoc [] [] [] 100 ?_
  exact ye hf so2 ce2 q2
set_option maxHeartbeats 4000000 in
set_option maxRecDepth 100000 in
theorem k_keepGiven_tr (l : Launch) (so ce : Nat → Int32) (n2 : Int32) (mso mce : Nat → Int32) (n3 : Int32) (rme : Nat → Int32) (n4 : Int32) (sme : Nat → Int32) (n5 : Int32) (mks : Nat → Int32) (q : Nat → Nat → Int) (f0 f1 f2 t0 t1 t2 we pa iv tu fo hal : Nat → Int64) (n6 : Int32) (va le mi co fr : Nat → Int64) (n7 : Int32) (eso ece : Nat → Int32) (be af bo sx fi se re p3 q3 r3 s3 : Nat → Int64) (S : SO) (hS : RH S so ce) (s : Nat) (hs : s ≤ 2) (hw : 3 = wd s) (z : Nat → Int) (hz : ∀ i, i < 3 → jr (z i)) : xM l yX10_keepGiven cX10_keepGiven 5 (some .int) rX10_keepGiven [.ref 0, .int (nI s), .ref 50] (GC (nI S.1) so ce n2 mso mce n3 rme n4 sme n5 mks q f0 f1 f2 t0 t1 t2 we pa iv tu fo hal n6 va le mi co fr n7 eso ece be af bo (fun i => zl (z i)) sx fi se re p3 q3 r3 s3) (fun r G => ∃ so' ce' x', r = some (.int (zi (spG S s 3 z).1)) ∧ RH (spG S s 3 z).2 so' ce' ∧ G = (GC (nI (spG S s 3 z).2.1) so' ce' n2 mso mce n3 rme n4 sme n5 mks q f0 f1 f2 t0 t1 t2 we pa iv tu fo hal n6 va le mi co fr n7 eso ece be af bo x' sx fi se re p3 q3 r3 s3)) := by
  refine xM.of (by decide) (Nat.le_of_ble_eq_true rfl) (fun X hX => ?_)
  have j0 : jr 0 := ⟨by omega, by omega⟩
  have out : alB (fun i => !decide (z i < -500 ∨ 500 < z i)) 3 = false → ∃ so' ce' x', some (Value.int (zi (-2))) = some (.int (zi (spG S s 3 z).1)) ∧ RH (spG S s 3 z).2 so' ce' ∧ (GC (nI S.1) so ce n2 mso mce n3 rme n4 sme n5 mks q f0 f1 f2 t0 t1 t2 we pa iv tu fo hal n6 va le mi co fr n7 eso ece be af bo (fun i => zl (z i)) sx fi se re p3 q3 r3 s3) = (GC (nI (spG S s 3 z).2.1) so' ce' n2 mso mce n3 rme n4 sme n5 mks q f0 f1 f2 t0 t1 t2 we pa iv tu fo hal n6 va le mi co fr n7 eso ece be af bo x' sx fi se re p3 q3 r3 s3) := by
    intro h
    have e : (spG S s 3 z) = (-2, S) := by unfold spG; rw [h]; rfl
    rw [e]
    exact ⟨so, ce, _, rfl, hS, rfl⟩
  have last : alB (fun i => !decide (z i < -500 ∨ 500 < z i)) 3 = true → ∀ k, k = 3 → X 53 [some (.ref 0), some (.int (nI s)), some (.ref 50), some (.int (bI (alB (fun i => decide (z i = 0)) k))), none] [] (GC (nI S.1) so ce n2 mso mce n3 rme n4 sme n5 mks q f0 f1 f2 t0 t1 t2 we pa iv tu fo hal n6 va le mi co fr n7 eso ece be af bo (fun i => zl (z i)) sx fi se re p3 q3 r3 s3) := by
    rintro hin k rfl
    refine hX.run (ft := ftX10) (ct := ctX10) (oc := []) kX10_keepGiven_ok ftX10_ok ctX10_ok xnoc [] [] [] 100 ?_
    refine ⟨fun h => ?_, fun h => ?_⟩
    rotate_left
    · have hb := bI_t h
      have e : (spG S s 3 z) = (-3, S) := by unfold spG; rw [hin, hb]; rfl
      rw [e]
      exact ⟨so, ce, _, rfl, hS, rfl⟩
    have hb := bI_0.mp h
    have e : (spG S s 3 z) = addO S s 3 z := by unfold spG; rw [hin, hb]; rfl
    have hg : gN z 3 ≠ 0 := by
      intro q
      have : alB (fun i => decide (z i = 0)) 3 = true := by
        have hz0 := gN_zero q
        simp [alB, hz0]
      rw [this] at hb
      cases hb
    refine hX.callV0 (rest := []) (k_keepObj_tr l so ce n2 mso mce n3 rme n4 sme n5 mks q f0 f1 f2 t0 t1 t2 we pa iv tu fo hal n6 va le mi co fr n7 eso ece be af bo sx fi se re p3 q3 r3 s3 S hS s hs hw z hz hg) yX10_keepObject_ok lkX10_113 ivX10_keepObject slX10_keepObject ⟨rfl, rfl, by decide, by decide⟩ (kX10_keepGiven_ok.at 65 rfl) rfl rfl (by decide) rfl rfl rfl (fun _ _ q => by obtain ⟨_, _, _, -, -, rfl⟩ := q; rfl) (fun r9 G1 q => ?_)
    obtain ⟨so2, ce2, x2, rfl, q2, rfl⟩ := q
    refine hX.run (ft := ftX10) (ct := ctX10) (oc := []) kX10_keepGiven_ok ftX10_ok ctX10_ok xnoc [] [] [] 100 ?_
    rw [e]
    exact ⟨so2, ce2, x2, rfl, q2, rfl⟩
  have main : ∀ d k, d + k = 3 → alB (fun i => !decide (z i < -500 ∨ 500 < z i)) k = true → X 5 [some (.ref 0), some (.int (nI s)), some (.ref 50), some (.int (bI (alB (fun i => decide (z i = 0)) k))), some (.int (nI k))] [] (GC (nI S.1) so ce n2 mso mce n3 rme n4 sme n5 mks q f0 f1 f2 t0 t1 t2 we pa iv tu fo hal n6 va le mi co fr n7 eso ece be af bo (fun i => zl (z i)) sx fi se re p3 q3 r3 s3) := by
    intro d
    induction d with
    | zero =>
      intro k hk hb
      have hk : k = 3 := by omega
      subst hk
      refine hX.run (ft := ftX10) (ct := ctX10) (oc := []) kX10_keepGiven_ok ftX10_ok ctX10_ok xnoc [53] [] [] 100 ?_
      exact ⟨fun _ => hX.less (last hb 3 rfl) ⟨rfl, rfl, rfl, rfl, trivial⟩, fun h => absurd (nI_le (Nat.le_refl _) (by omega)) h⟩
    | succ d ih =>
      intro k hk hb
      have hih := ih (k + 1) (by omega)
      rw [← nI_1 k] at hih
      refine hX.run (ft := ftX10) (ct := ctX10) (oc := []) kX10_keepGiven_ok ftX10_ok ctX10_ok xnoc [5] [] [15, 35] 100 ?_
      refine ⟨fun h => absurd h (nI_ge (by omega) (by omega)), fun _ => ?_⟩
      refine ⟨k, rfl, by omega, by omega, ?_⟩
      refine hX.callS [] [] (k_beyond l (z k) 500 (hz k (by omega)) ⟨by omega, by omega⟩) yX10_beyond_ok lkX10_144 ssX10_beyond ⟨rfl, rfl, by decide, by decide⟩ (kX10_keepGiven_ok.at 19 rfl) rfl rfl (by decide) trivial rfl (fun _ _ q => by rw [q.2]) (fun r9 G1 q => ?_)
      obtain ⟨rfl, rfl⟩ := q
      refine hX.run (ft := ftX10) (ct := ctX10) (oc := []) kX10_keepGiven_ok ftX10_ok ctX10_ok xnoc [5] [] [15, 35] 100 ?_
      refine ⟨fun h => ?_, fun h => ?_⟩
      rotate_left
      · have hb2 := bI_t h
        exact out (alB_no (k := k) (by rw [hb2]; rfl) (by omega))
      have hb2 := bI_0.mp h
      have hih2 := hih (by unfold alB; rw [hb, hb2]; rfl)
      refine ⟨fun h => ?_, fun h => ?_⟩
      · have hz0 := bI_0.mp h
        have e1 : alB (fun i => decide (z i = 0)) (k + 1) = false := by unfold alB; rw [hz0]; rfl
        rw [e1] at hih2
        exact hih2
      have hz0 := bI_t h
      refine ⟨k, rfl, by omega, by omega, ?_⟩
      refine ⟨fun h => ?_, fun h => ?_⟩
      · have h1 : zl (z k) = zl 0 := lgc_eq.mp h
        rw [zl_eq (hz k (by omega)) j0] at h1
        have e1 : alB (fun i => decide (z i = 0)) (k + 1) = true := by unfold alB; rw [hz0, decide_eq_true h1]; rfl
        rw [e1] at hih2
        exact hih2
      · have h1 : ¬ z k = 0 := fun q => h (lgc_eq.mpr (show zl (z k) = zl 0 by rw [q]))
        have e1 : alB (fun i => decide (z i = 0)) (k + 1) = false := by unfold alB; rw [hz0, decide_eq_false h1]; rfl
        rw [e1] at hih2
        exact hih2
  refine hX.run (ft := ftX10) (ct := ctX10) (oc := []) kX10_keepGiven_ok ftX10_ok ctX10_ok xnoc [5] [] [] 100 ?_
  exact main 3 0 (by omega) rfl
set_option maxHeartbeats 4000000 in
set_option maxRecDepth 100000 in
theorem k_keepGiven_sx (l : Launch) (so ce : Nat → Int32) (n2 : Int32) (mso mce : Nat → Int32) (n3 : Int32) (rme : Nat → Int32) (n4 : Int32) (sme : Nat → Int32) (n5 : Int32) (mks : Nat → Int32) (q : Nat → Nat → Int) (f0 f1 f2 t0 t1 t2 we pa iv tu fo hal : Nat → Int64) (n6 : Int32) (va le mi co fr : Nat → Int64) (n7 : Int32) (eso ece : Nat → Int32) (be af bo tr fi se re p3 q3 r3 s3 : Nat → Int64) (S : SO) (hS : RH S so ce) (s : Nat) (hs : s ≤ 2) (hw : 6 = wd s) (z : Nat → Int) (hz : ∀ i, i < 6 → jr (z i)) : xM l yX10_keepGiven cX10_keepGiven 5 (some .int) rX10_keepGiven [.ref 0, .int (nI s), .ref 51] (GC (nI S.1) so ce n2 mso mce n3 rme n4 sme n5 mks q f0 f1 f2 t0 t1 t2 we pa iv tu fo hal n6 va le mi co fr n7 eso ece be af bo tr (fun i => zl (z i)) fi se re p3 q3 r3 s3) (fun r G => ∃ so' ce' x', r = some (.int (zi (spG S s 6 z).1)) ∧ RH (spG S s 6 z).2 so' ce' ∧ G = (GC (nI (spG S s 6 z).2.1) so' ce' n2 mso mce n3 rme n4 sme n5 mks q f0 f1 f2 t0 t1 t2 we pa iv tu fo hal n6 va le mi co fr n7 eso ece be af bo tr x' fi se re p3 q3 r3 s3)) := by
  refine xM.of (by decide) (Nat.le_of_ble_eq_true rfl) (fun X hX => ?_)
  have j0 : jr 0 := ⟨by omega, by omega⟩
  have out : alB (fun i => !decide (z i < -500 ∨ 500 < z i)) 6 = false → ∃ so' ce' x', some (Value.int (zi (-2))) = some (.int (zi (spG S s 6 z).1)) ∧ RH (spG S s 6 z).2 so' ce' ∧ (GC (nI S.1) so ce n2 mso mce n3 rme n4 sme n5 mks q f0 f1 f2 t0 t1 t2 we pa iv tu fo hal n6 va le mi co fr n7 eso ece be af bo tr (fun i => zl (z i)) fi se re p3 q3 r3 s3) = (GC (nI (spG S s 6 z).2.1) so' ce' n2 mso mce n3 rme n4 sme n5 mks q f0 f1 f2 t0 t1 t2 we pa iv tu fo hal n6 va le mi co fr n7 eso ece be af bo tr x' fi se re p3 q3 r3 s3) := by
    intro h
    have e : (spG S s 6 z) = (-2, S) := by unfold spG; rw [h]; rfl
    rw [e]
    exact ⟨so, ce, _, rfl, hS, rfl⟩
  have last : alB (fun i => !decide (z i < -500 ∨ 500 < z i)) 6 = true → ∀ k, k = 6 → X 53 [some (.ref 0), some (.int (nI s)), some (.ref 51), some (.int (bI (alB (fun i => decide (z i = 0)) k))), none] [] (GC (nI S.1) so ce n2 mso mce n3 rme n4 sme n5 mks q f0 f1 f2 t0 t1 t2 we pa iv tu fo hal n6 va le mi co fr n7 eso ece be af bo tr (fun i => zl (z i)) fi se re p3 q3 r3 s3) := by
    rintro hin k rfl
    refine hX.run (ft := ftX10) (ct := ctX10) (oc := []) kX10_keepGiven_ok ftX10_ok ctX10_ok xnoc [] [] [] 100 ?_
    refine ⟨fun h => ?_, fun h => ?_⟩
    rotate_left
    · have hb := bI_t h
      have e : (spG S s 6 z) = (-3, S) := by unfold spG; rw [hin, hb]; rfl
      rw [e]
      exact ⟨so, ce, _, rfl, hS, rfl⟩
    have hb := bI_0.mp h
    have e : (spG S s 6 z) = addO S s 6 z := by unfold spG; rw [hin, hb]; rfl
    have hg : gN z 6 ≠ 0 := by
      intro q
      have : alB (fun i => decide (z i = 0)) 6 = true := by
        have hz0 := gN_zero q
        simp [alB, hz0]
      rw [this] at hb
      cases hb
    refine hX.callV0 (rest := []) (k_keepObj_sx l so ce n2 mso mce n3 rme n4 sme n5 mks q f0 f1 f2 t0 t1 t2 we pa iv tu fo hal n6 va le mi co fr n7 eso ece be af bo tr fi se re p3 q3 r3 s3 S hS s hs hw z hz hg) yX10_keepObject_ok lkX10_113 ivX10_keepObject slX10_keepObject ⟨rfl, rfl, by decide, by decide⟩ (kX10_keepGiven_ok.at 65 rfl) rfl rfl (by decide) rfl rfl rfl (fun _ _ q => by obtain ⟨_, _, _, -, -, rfl⟩ := q; rfl) (fun r9 G1 q => ?_)
    obtain ⟨so2, ce2, x2, rfl, q2, rfl⟩ := q
    refine hX.run (ft := ftX10) (ct := ctX10) (oc := []) kX10_keepGiven_ok ftX10_ok ctX10_ok xnoc [] [] [] 100 ?_
    rw [e]
    exact ⟨so2, ce2, x2, rfl, q2, rfl⟩
  have main : ∀ d k, d + k = 6 → alB (fun i => !decide (z i < -500 ∨ 500 < z i)) k = true → X 5 [some (.ref 0), some (.int (nI s)), some (.ref 51), some (.int (bI (alB (fun i => decide (z i = 0)) k))), some (.int (nI k))] [] (GC (nI S.1) so ce n2 mso mce n3 rme n4 sme n5 mks q f0 f1 f2 t0 t1 t2 we pa iv tu fo hal n6 va le mi co fr n7 eso ece be af bo tr (fun i => zl (z i)) fi se re p3 q3 r3 s3) := by
    intro d
    induction d with
    | zero =>
      intro k hk hb
      have hk : k = 6 := by omega
      subst hk
      refine hX.run (ft := ftX10) (ct := ctX10) (oc := []) kX10_keepGiven_ok ftX10_ok ctX10_ok xnoc [53] [] [] 100 ?_
      exact ⟨fun _ => hX.less (last hb 6 rfl) ⟨rfl, rfl, rfl, rfl, trivial⟩, fun h => absurd (nI_le (Nat.le_refl _) (by omega)) h⟩
    | succ d ih =>
      intro k hk hb
      have hih := ih (k + 1) (by omega)
      rw [← nI_1 k] at hih
      refine hX.run (ft := ftX10) (ct := ctX10) (oc := []) kX10_keepGiven_ok ftX10_ok ctX10_ok xnoc [5] [] [15, 35] 100 ?_
      refine ⟨fun h => absurd h (nI_ge (by omega) (by omega)), fun _ => ?_⟩
      refine ⟨k, rfl, by omega, by omega, ?_⟩
      refine hX.callS [] [] (k_beyond l (z k) 500 (hz k (by omega)) ⟨by omega, by omega⟩) yX10_beyond_ok lkX10_144 ssX10_beyond ⟨rfl, rfl, by decide, by decide⟩ (kX10_keepGiven_ok.at 19 rfl) rfl rfl (by decide) trivial rfl (fun _ _ q => by rw [q.2]) (fun r9 G1 q => ?_)
      obtain ⟨rfl, rfl⟩ := q
      refine hX.run (ft := ftX10) (ct := ctX10) (oc := []) kX10_keepGiven_ok ftX10_ok ctX10_ok xnoc [5] [] [15, 35] 100 ?_
      refine ⟨fun h => ?_, fun h => ?_⟩
      rotate_left
      · have hb2 := bI_t h
        exact out (alB_no (k := k) (by rw [hb2]; rfl) (by omega))
      have hb2 := bI_0.mp h
      have hih2 := hih (by unfold alB; rw [hb, hb2]; rfl)
      refine ⟨fun h => ?_, fun h => ?_⟩
      · have hz0 := bI_0.mp h
        have e1 : alB (fun i => decide (z i = 0)) (k + 1) = false := by unfold alB; rw [hz0]; rfl
        rw [e1] at hih2
        exact hih2
      have hz0 := bI_t h
      refine ⟨k, rfl, by omega, by omega, ?_⟩
      refine ⟨fun h => ?_, fun h => ?_⟩
      · have h1 : zl (z k) = zl 0 := lgc_eq.mp h
        rw [zl_eq (hz k (by omega)) j0] at h1
        have e1 : alB (fun i => decide (z i = 0)) (k + 1) = true := by unfold alB; rw [hz0, decide_eq_true h1]; rfl
        rw [e1] at hih2
        exact hih2
      · have h1 : ¬ z k = 0 := fun q => h (lgc_eq.mpr (show zl (z k) = zl 0 by rw [q]))
        have e1 : alB (fun i => decide (z i = 0)) (k + 1) = false := by unfold alB; rw [hz0, decide_eq_false h1]; rfl
        rw [e1] at hih2
        exact hih2
  refine hX.run (ft := ftX10) (ct := ctX10) (oc := []) kX10_keepGiven_ok ftX10_ok ctX10_ok xnoc [5] [] [] 100 ?_
  exact main 6 0 (by omega) rfl
set_option maxHeartbeats 4000000 in
set_option maxRecDepth 100000 in
theorem k_keepTriple (l : Launch) (so ce : Nat → Int32) (n2 : Int32) (mso mce : Nat → Int32) (n3 : Int32) (rme : Nat → Int32) (n4 : Int32) (sme : Nat → Int32) (n5 : Int32) (mks : Nat → Int32) (q : Nat → Nat → Int) (f0 f1 f2 t0 t1 t2 we pa iv tu fo hal : Nat → Int64) (n6 : Int32) (va le mi co fr : Nat → Int64) (n7 : Int32) (eso ece : Nat → Int32) (be af bo tr sx fi se re p3 q3 r3 s3 : Nat → Int64) (S : SO) (hS : RH S so ce) (s : Nat) (hs : s ≤ 1) (x y w : Int32) : xM l yX10_keepTriple cX10_keepTriple 5 (some .int) rX10_keepTriple [.ref 0, .int (nI s), .int x, .int y, .int w] (GC (nI S.1) so ce n2 mso mce n3 rme n4 sme n5 mks q f0 f1 f2 t0 t1 t2 we pa iv tu fo hal n6 va le mi co fr n7 eso ece be af bo tr sx fi se re p3 q3 r3 s3) (fun r G => ∃ so' ce' x', r = some (.int (zi (sp3 S s x.toInt y.toInt w.toInt).1)) ∧ RH (sp3 S s x.toInt y.toInt w.toInt).2 so' ce' ∧ G = (GC (nI (sp3 S s x.toInt y.toInt w.toInt).2.1) so' ce' n2 mso mce n3 rme n4 sme n5 mks q f0 f1 f2 t0 t1 t2 we pa iv tu fo hal n6 va le mi co fr n7 eso ece be af bo x' sx fi se re p3 q3 r3 s3)) := by
  refine xM.of (by decide) (Nat.le_of_ble_eq_true rfl) (fun X hX => ?_)
  have hw : 3 = wd s := by unfold wd; rw [if_neg (by omega), if_neg (by omega)]
  have hz : ∀ i, i < 3 → jr (vec3 x.toInt y.toInt w.toInt i) := fun i hi => by
    rcases (show i = 0 ∨ i = 1 ∨ i = 2 by omega) with rfl | rfl | rfl <;> exact i32_jr _
  refine hX.run (ft := ftX10) (ct := ctX10) (oc := []) kX10_keepTriple_ok ftX10_ok ctX10_ok xnoc [] [] [] 100 ?_
  refine hX.alikeL 50 (n := 3) (fun i => zl (vec3 x.toInt y.toInt w.toInt i)) rfl (fun i hi => ?_) ?_
  · unfold vp_updL
    try dsimp only
    rcases (show i = 0 ∨ i = 1 ∨ i = 2 by omega) with rfl | rfl | rfl <;> rfl
  refine hX.callV0 (rest := []) (k_keepGiven_tr l so ce n2 mso mce n3 rme n4 sme n5 mks q f0 f1 f2 t0 t1 t2 we pa iv tu fo hal n6 va le mi co fr n7 eso ece be af bo sx fi se re p3 q3 r3 s3 S hS s (by omega) hw (vec3 x.toInt y.toInt w.toInt) hz) yX10_keepGiven_ok lkX10_91 ivX10_keepGiven slX10_keepGiven ⟨rfl, rfl, by decide, by decide⟩ (kX10_keepTriple_ok.at 31 rfl) rfl rfl (by decide) rfl rfl rfl (fun _ _ q => by obtain ⟨_, _, _, -, -, rfl⟩ := q; rfl) (fun r9 G1 q => ?_)
  obtain ⟨so2, ce2, x2, rfl, q2, rfl⟩ := q
  rw [spG_3] at q2 ⊢
  refine hX.run (ft := ftX10) (ct := ctX10) (oc := []) kX10_keepTriple_ok ftX10_ok ctX10_ok xnoc [] [] [] 100 ?_
  exact ⟨so2, ce2, x2, rfl, q2, rfl⟩
theorem addO_ge (S : SO) (s n : Nat) (z : Nat → Int) : S.1 ≤ (addO S s n z).2.1 := by
  unfold addO
  split
  · cases fnd (hitO S.2.1 S.2.2 s n (lrow z n)) S.1 0 with
    | some k => exact Nat.le_refl _
    | none =>
      dsimp only
      split
      · exact Nat.le_refl _
      · exact Nat.le_succ _
  · exact Nat.le_refl _
theorem addO_st {S : SO} {s : Nat} (n : Nat) (z : Nat → Int) (hs : s ≤ 2) (h : ∀ k, k < S.1 → S.2.1 k ≤ 2) : ∀ k, k < (addO S s n z).2.1 → (addO S s n z).2.2.1 k ≤ 2 := by
  unfold addO
  split
  · cases fnd (hitO S.2.1 S.2.2 s n (lrow z n)) S.1 0 with
    | some k => exact h
    | none =>
      dsimp only
      split
      · exact h
      · intro k hk
        dsimp only at hk ⊢
        split
        · exact hs
        · exact h k (by omega)
  · exact h
theorem sp3_st {S : SO} {s : Nat} (a b c : Int) (hs : s ≤ 2) (h : ∀ k, k < S.1 → S.2.1 k ≤ 2) : ∀ k, k < (sp3 S s a b c).2.1 → (sp3 S s a b c).2.2.1 k ≤ 2 := by
  unfold sp3
  split
  · split
    · exact h
    · exact addO_st _ _ hs h
  · exact h
theorem sp6_ge (S : SO) (a b c d e f : Int) : S.1 ≤ (sp6 S a b c d e f).2.1 := by
  unfold sp6
  split
  · split
    · exact Nat.le_refl _
    · exact addO_ge _ _ _ _
  · exact Nat.le_refl _
theorem sp6_st {S : SO} (a b c d e f : Int) (h : ∀ k, k < S.1 → S.2.1 k ≤ 2) : ∀ k, k < (sp6 S a b c d e f).2.1 → (sp6 S a b c d e f).2.2.1 k ≤ 2 := by
  unfold sp6
  split
  · split
    · exact h
    · exact addO_st _ _ (by omega) h
  · exact h
theorem RV.wide {c lim lim2 : Nat} {V : SV} {gv : Nat → Int32} (h : RV c lim V gv) (hl : lim ≤ lim2) : RV c lim2 V gv := ⟨h.1, fun k hk => ⟨(h.2 k hk).1, Nat.lt_of_lt_of_le (h.2 k hk).2 hl⟩⟩
theorem sp3_ge (S : SO) (s : Nat) (a b c : Int) : S.1 ≤ (sp3 S s a b c).2.1 := by
  unfold sp3
  split
  · split
    · exact Nat.le_refl _
    · exact addO_ge _ _ _ _
  · exact Nat.le_refl _
set_option maxHeartbeats 4000000 in
set_option maxRecDepth 100000 in
theorem k_point (l : Launch) (S : SS) (G0 : List xE) (hG : CInv S G0) (x y w : Int32) : xM l yX10_point cX10_point 4 (some .int) rX10_point [.ref 0, .int x, .int y, .int w] G0 (fun r G => r = some (.int (zi (sp_point S x.toInt y.toInt w.toInt).1)) ∧ CInv (sp_point S x.toInt y.toInt w.toInt).2 G) := by
  obtain ⟨so, ce, mso, mce, rme, sme, n5, mks, q, f0, f1, f2, t0, t1, t2, we, pa, iv, tu, fo, hal, n6, va, le, mi, co, fr, eso, ece, be, af, bo, tr, sx, fi, se, re, p3, q3, r3, s3, rfl, hO, hO2, hM, hM4, hV, hW, hE, hE4, hE1⟩ := hG
  refine xM.of (by decide) (Nat.le_of_ble_eq_true rfl) (fun X hX => ?_)
  refine hX.run (ft := ftX10) (ct := ctX10) (oc := []) kX10_point_ok ftX10_ok ctX10_ok xnoc [] [] [] 100 ?_
  refine hX.callV0 (rest := []) (k_keepTriple l so ce (nI S.2.1.1) mso mce (nI S.2.2.1.1) rme (nI S.2.2.2.1.1) sme n5 mks q f0 f1 f2 t0 t1 t2 we pa iv tu fo hal n6 va le mi co fr (nI S.2.2.2.2.1) eso ece be af bo tr sx fi se re p3 q3 r3 s3 S.1 hO 0 (by omega) x y w) yX10_keepTriple_ok lkX10_87 ivX10_keepTriple slX10_keepTriple ⟨rfl, rfl, by decide, by decide⟩ (kX10_point_ok.at 5 rfl) rfl rfl (by decide) rfl rfl rfl (fun _ _ q => by obtain ⟨_, _, _, -, -, rfl⟩ := q; rfl) (fun r9 G1 q => ?_)
  obtain ⟨so2, ce2, x2, rfl, q2, rfl⟩ := q
  refine hX.run (ft := ftX10) (ct := ctX10) (oc := []) kX10_point_ok ftX10_ok ctX10_ok xnoc [] [] [] 100 ?_
  exact ⟨rfl, ⟨_, _, _, _, _, _, _, _, _, _, _, _, _, _, _, _, _, _, _, _, _, _, _, _, _, _, _, _, _, _, _, _, _, _, _, _, _, _, _, _, _, rfl, q2, sp3_st _ _ _ (by omega) hO2, hM, hM4, hV.wide (sp3_ge _ _ _ _ _), hW, hE, hE4, hE1⟩⟩
set_option maxHeartbeats 4000000 in
set_option maxRecDepth 100000 in
theorem k_line (l : Launch) (S : SS) (G0 : List xE) (hG : CInv S G0) (x y w : Int32) : xM l yX10_line cX10_line 4 (some .int) rX10_line [.ref 0, .int x, .int y, .int w] G0 (fun r G => r = some (.int (zi (sp_line S x.toInt y.toInt w.toInt).1)) ∧ CInv (sp_line S x.toInt y.toInt w.toInt).2 G) := by
  obtain ⟨so, ce, mso, mce, rme, sme, n5, mks, q, f0, f1, f2, t0, t1, t2, we, pa, iv, tu, fo, hal, n6, va, le, mi, co, fr, eso, ece, be, af, bo, tr, sx, fi, se, re, p3, q3, r3, s3, rfl, hO, hO2, hM, hM4, hV, hW, hE, hE4, hE1⟩ := hG
  refine xM.of (by decide) (Nat.le_of_ble_eq_true rfl) (fun X hX => ?_)
  refine hX.run (ft := ftX10) (ct := ctX10) (oc := []) kX10_line_ok ftX10_ok ctX10_ok xnoc [] [] [] 100 ?_
  refine hX.callV0 (rest := []) (k_keepTriple l so ce (nI S.2.1.1) mso mce (nI S.2.2.1.1) rme (nI S.2.2.2.1.1) sme n5 mks q f0 f1 f2 t0 t1 t2 we pa iv tu fo hal n6 va le mi co fr (nI S.2.2.2.2.1) eso ece be af bo tr sx fi se re p3 q3 r3 s3 S.1 hO 1 (by omega) x y w) yX10_keepTriple_ok lkX10_87 ivX10_keepTriple slX10_keepTriple ⟨rfl, rfl, by decide, by decide⟩ (kX10_line_ok.at 5 rfl) rfl rfl (by decide) rfl rfl rfl (fun _ _ q => by obtain ⟨_, _, _, -, -, rfl⟩ := q; rfl) (fun r9 G1 q => ?_)
  obtain ⟨so2, ce2, x2, rfl, q2, rfl⟩ := q
  refine hX.run (ft := ftX10) (ct := ctX10) (oc := []) kX10_line_ok ftX10_ok ctX10_ok xnoc [] [] [] 100 ?_
  exact ⟨rfl, ⟨_, _, _, _, _, _, _, _, _, _, _, _, _, _, _, _, _, _, _, _, _, _, _, _, _, _, _, _, _, _, _, _, _, _, _, _, _, _, _, _, _, rfl, q2, sp3_st _ _ _ (by omega) hO2, hM, hM4, hV.wide (sp3_ge _ _ _ _ _), hW, hE, hE4, hE1⟩⟩
set_option maxHeartbeats 4000000 in
set_option maxRecDepth 100000 in
theorem k_conic (l : Launch) (S : SS) (G0 : List xE) (hG : CInv S G0) (a b c d e f : Int32) : xM l yX10_conic cX10_conic 7 (some .int) rX10_conic [.ref 0, .int a, .int b, .int c, .int d, .int e, .int f] G0 (fun r G => r = some (.int (zi (sp_conic S a.toInt b.toInt c.toInt d.toInt e.toInt f.toInt).1)) ∧ CInv (sp_conic S a.toInt b.toInt c.toInt d.toInt e.toInt f.toInt).2 G) := by
  obtain ⟨so, ce, mso, mce, rme, sme, n5, mks, q, f0, f1, f2, t0, t1, t2, we, pa, iv, tu, fo, hal, n6, va, le, mi, co, fr, eso, ece, be, af, bo, tr, sx, fi, se, re, p3, q3, r3, s3, rfl, hO, hO2, hM, hM4, hV, hW, hE, hE4, hE1⟩ := hG
  refine xM.of (by decide) (Nat.le_of_ble_eq_true rfl) (fun X hX => ?_)
  have hz : ∀ i, i < 6 → jr (vec6 a.toInt b.toInt c.toInt d.toInt e.toInt f.toInt i) := fun i hi => by
    rcases (show i = 0 ∨ i = 1 ∨ i = 2 ∨ i = 3 ∨ i = 4 ∨ i = 5 by omega) with rfl | rfl | rfl | rfl | rfl | rfl <;> exact i32_jr _
  refine hX.run (ft := ftX10) (ct := ctX10) (oc := []) kX10_conic_ok ftX10_ok ctX10_ok xnoc [] [] [] 100 ?_
  refine hX.alikeL 51 (n := 6) (fun i => zl (vec6 a.toInt b.toInt c.toInt d.toInt e.toInt f.toInt i)) rfl (fun i hi => ?_) ?_
  · unfold vp_updL
    try dsimp only
    rcases (show i = 0 ∨ i = 1 ∨ i = 2 ∨ i = 3 ∨ i = 4 ∨ i = 5 by omega) with rfl | rfl | rfl | rfl | rfl | rfl <;> rfl
  refine hX.callV0 (rest := []) (k_keepGiven_sx l so ce (nI S.2.1.1) mso mce (nI S.2.2.1.1) rme (nI S.2.2.2.1.1) sme n5 mks q f0 f1 f2 t0 t1 t2 we pa iv tu fo hal n6 va le mi co fr (nI S.2.2.2.2.1) eso ece be af bo tr fi se re p3 q3 r3 s3 S.1 hO 2 (by omega) rfl (vec6 a.toInt b.toInt c.toInt d.toInt e.toInt f.toInt) hz) yX10_keepGiven_ok lkX10_91 ivX10_keepGiven slX10_keepGiven ⟨rfl, rfl, by decide, by decide⟩ (kX10_conic_ok.at 57 rfl) rfl rfl (by decide) rfl rfl rfl (fun _ _ q => by obtain ⟨_, _, _, -, -, rfl⟩ := q; rfl) (fun r9 G1 q => ?_)
  obtain ⟨so2, ce2, x2, rfl, q2, rfl⟩ := q
  rw [spG_6] at q2 ⊢
  refine hX.run (ft := ftX10) (ct := ctX10) (oc := []) kX10_conic_ok ftX10_ok ctX10_ok xnoc [] [] [] 100 ?_
  exact ⟨rfl, ⟨_, _, _, _, _, _, _, _, _, _, _, _, _, _, _, _, _, _, _, _, _, _, _, _, _, _, _, _, _, _, _, _, _, _, _, _, _, _, _, _, _, rfl, q2, sp6_st _ _ _ _ _ _ hO2, hM, hM4, hV.wide (sp6_ge _ _ _ _ _ _ _), hW, hE, hE4, hE1⟩⟩
