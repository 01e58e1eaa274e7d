/-! by points: the reference finds the class's table -/
theorem lst_le {z : Nat → Int} {n i : Nat} (hg : gN z n ≠ 0) (hi : i < n) : (lst z n i).natAbs ≤ (z i).natAbs := by
  have h := lst_mul (z := z) (n := n) hi
  have h1 : (z i).natAbs = (((gN z n : Nat) : Int) * sN z n).natAbs * (lst z n i).natAbs := by rw [← Int.natAbs_mul, ← h]
  rw [h1]
  refine Nat.le_mul_of_pos_left _ ?_
  rcases sN_or z n with q | q <;> rw [q] <;> omega
theorem fit_of {z : Nat → Int} {n : Nat} : ∀ {k : Nat}, (∀ i, i < k → ab (lst z n i) 500) → fit z n k = true
  | 0, _ => rfl
  | k + 1, h => by
    unfold fit
    rw [fit_of (k := k) (fun i hi => h i (by omega)), decide_eq_true (show -500 ≤ lst z n k ∧ lst z n k ≤ 500 from h k (by omega))]
    rfl
theorem fitM_of {W : Int} {z : Nat → Int} {n : Nat} : ∀ {k : Nat}, (∀ i, i < k → ab (lst z n i) W) → fitM W z n k = true
  | 0, _ => rfl
  | k + 1, h => by
    unfold fitM
    have h1 := (h k (by omega)).1
    have h2 := (h k (by omega)).2
    rw [fitM_of (k := k) (fun i hi => h i (by omega)), decide_eq_false (by omega)]
    rfl
theorem prp_sm {z w : Nat → Int} {n : Nat} (h : prp z w n) : prp w z n := fun i j hi hj => by
  have := h j i hj hi
  rw [Int.mul_comm (w i), Int.mul_comm (w j)]
  exact this
theorem lrow_prp {T : Nat → Int} : prp (lrow T 9) T 9 := by
  intro i j hi hj
  rw [lrow_lt hi, lrow_lt hj]
  have h1 := lst_mul (z := T) (n := 9) hi
  have h2 := lst_mul (z := T) (n := 9) hj
  generalize ((gN T 9 : Nat) : Int) * sN T 9 = G at *
  generalize lst T 9 i = a at *
  generalize lst T 9 j = b at *
  grind
theorem bpy_none {S : SO} {V : SV} {M : SM} {kd : Nat} (h : ∀ T : Nat → Int, (∀ i, i < 9 → ab (T i) 500) → triB S V T kd (kn kd) = true → False) : ∀ d k, bpy S V M kd d k = (-4, M)
  | 0, k => rfl
  | d + 1, k => by
    rw [bpy_no, bpy_none h d (k + 1)]
    cases ht : telV (prm k) (bpT kd (prm k) S V) with
    | none => exact Or.inl rfl
    | some T =>
      right
      refine ⟨T, rfl, ?_⟩
      cases hb : triB S V T kd (kn kd) with
      | false => rfl
      | true => exact (h T (telV_bd ht) hb).elim
theorem bpy_eq {S : SO} {V : SV} {M : SM} {kd : Nat} {T : Nat → Int} (hT : det9 T ≠ 0) (huni : ∀ T' : Nat → Int, (∀ i, i < 9 → ab (T' i) 500) → triB S V T' kd (kn kd) = true → prp T' T 9) (hfind : fit T 9 9 = true → telV (prm 0) (bpT kd (prm 0) S V) = some (lrow T 9)) (htri : triB S V (lrow T 9) kd (kn kd) = true) : bpy S V M kd 3 0 = addM M T := by
  have hg := det_ne hT
  by_cases hf : fit T 9 9 = true
  · rw [bpy_yes (hfind hf) htri]
    exact addM_prp (by rw [(lrow_lea hg).1]; decide) hg lrow_prp M
  · have e : addM M T = (-4, M) := by unfold addM; rw [if_neg hf]
    rw [e]
    refine bpy_none (fun T' hb ht => hf ?_) 3 0
    have hg' := det_ne (triB_det ht)
    have hl := prp_lst hg' hg (huni T' hb ht)
    refine fit_of (fun i hi => ?_)
    rw [← hl i hi]
    have h1 := lst_le hg' hi
    have h2 := hb i hi
    have := h2.1
    have := h2.2
    constructor <;> omega
/-- a table that goes with T takes the points as T does -/
theorem tak_lrow {S : SO} {V : SV} {T : Nat → Int} (hT : det9 T ≠ 0) {i j : Nat} (h : prp (pimg T (gq S V i)) (gq S V j) 3) : takB S V (lrow T 9) i j = true := by
  refine prp_takB ?_
  have hG : ((gN T 9 : Nat) : Int) * sN T 9 ≠ 0 := by
    have := det_ne hT
    rcases sN_or T 9 with q | q <;> rw [q] <;> omega
  have e : ∀ a, a < 3 → pimg T (gq S V i) a = ((gN T 9 : Nat) : Int) * sN T 9 * pimg (lrow T 9) (gq S V i) a := by
    intro a ha
    unfold pimg
    rw [lrow_lt (show 3 * a < 9 by omega), lrow_lt (show 3 * a + 1 < 9 by omega), lrow_lt (show 3 * a + 2 < 9 by omega)]
    have h0 := lst_mul (z := T) (n := 9) (show 3 * a < 9 by omega)
    have h1 := lst_mul (z := T) (n := 9) (show 3 * a + 1 < 9 by omega)
    have h2 := lst_mul (z := T) (n := 9) (show 3 * a + 2 < 9 by omega)
    generalize ((gN T 9 : Nat) : Int) * sN T 9 = G at *
    grind
  intro a b ha hb
  have h1 := h a b ha hb
  rw [e a ha, e b hb] at h1
  exact Int.eq_of_mul_eq_mul_left hG (by rw [← Int.mul_assoc, ← Int.mul_assoc]; exact h1)
theorem lrow_0 {T : Nat → Int} {i : Nat} (hi : i < 9) (h : T i = 0) : lrow T 9 i = 0 := by
  rw [lrow_lt hi]
  unfold lst
  rw [h]
  simp
theorem alB_of {P : Nat → Bool} : ∀ {n : Nat}, (∀ i, i < n → P i = true) → alB P n = true
  | 0, _ => rfl
  | n + 1, h => by
    unfold alB
    rw [alB_of (n := n) (fun i hi => h i (by omega)), h n (by omega)]
    rfl
theorem tri_parts {S : SO} {V : SV} {T : Nat → Int} {k n : Nat} (h : triB S V T k n = true) : (∀ i, i < n → prp (pimg T (gq S V i)) (gq S V (n + i)) 3) ∧ (k = 6 → T 6 = 0 ∧ T 7 = 0) ∧ (k = 5 → T 0 = T 4 ∧ T 1 = - T 3 ∧ T 6 = 0 ∧ T 7 = 0) := by
  unfold triB at h
  simp only [Bool.and_eq_true] at h
  obtain ⟨⟨-, h2⟩, h3⟩ := h
  refine ⟨fun i hi => takB_prp (alB_all h2 i hi), fun hk => ?_, fun hk => ?_⟩
  · subst hk
    rw [if_neg (by decide)] at h3
    rcases of_decide_eq_true h3 with q | q
    · exact absurd q (by decide)
    · exact q
  · subst hk
    rw [if_pos rfl] at h3
    obtain ⟨-, -, q1, q2, q3, q4⟩ := of_decide_eq_true h3
    exact ⟨q1, q2, q3, q4⟩
theorem tri_of {S : SO} {V : SV} {T : Nat → Int} {k n : Nat} (hT : det9 T ≠ 0) (h : ∀ i, i < n → prp (pimg T (gq S V i)) (gq S V (n + i)) 3) (h6 : k = 6 → T 6 = 0 ∧ T 7 = 0) (h5 : k = 5 → n = 2 ∧ T 0 = T 4 ∧ T 1 = - T 3 ∧ T 6 = 0 ∧ T 7 = 0) (hk : k = 5 ∨ k = 6 ∨ k = 7) : triB S V (lrow T 9) k n = true := by
  unfold triB
  rw [decide_eq_true (lrow_det hT), alB_of (fun i hi => tak_lrow hT (h i hi)), Bool.and_self, Bool.true_and]
  rcases hk with rfl | rfl | rfl
  · obtain ⟨hn, q1, q2, q3, q4⟩ := h5 rfl
    subst hn
    rw [if_pos rfl]
    have hG : ((gN T 9 : Nat) : Int) * sN T 9 ≠ 0 := by
      have := det_ne hT
      rcases sN_or T 9 with q | q <;> rw [q] <;> omega
    have e : ∀ a, a < 9 → T a = ((gN T 9 : Nat) : Int) * sN T 9 * lrow T 9 a := fun a ha => by rw [lrow_lt ha]; exact lst_mul ha
    refine decide_eq_true ⟨tak_lrow hT (h 0 (by omega)), tak_lrow hT (h 1 (by omega)), ?_, ?_, lrow_0 (by omega) q3, lrow_0 (by omega) q4⟩
    · rw [e 0 (by omega), e 4 (by omega)] at q1
      exact Int.eq_of_mul_eq_mul_left hG q1
    · rw [e 1 (by omega), e 3 (by omega), ← Int.mul_neg] at q2
      exact Int.eq_of_mul_eq_mul_left hG q2
  · obtain ⟨q3, q4⟩ := h6 rfl
    rw [if_neg (by decide)]
    exact decide_eq_true (Or.inr ⟨lrow_0 (by omega) q3, lrow_0 (by omega) q4⟩)
  · rfl
def P0 : Nat := 2147483647
theorem prm_0 : prm 0 = (P0 : Int) := rfl
theorem P0_pr : primeN P0 := p0
theorem dt9_bd {u v w : Nat → Int} (hu : ∀ i, i < 3 → ab (u i) 500) (hv : ∀ i, i < 3 → ab (v i) 500) (hw : ∀ i, i < 3 → ab (w i) 500) : ab (dt9 u v w) 750000000 :=
  ab_le (ab_add (ab_add (ab_mul (hu 0 (by omega)) (crs_bd hv hw 0)) (ab_mul (hu 1 (by omega)) (crs_bd hv hw 1))) (ab_mul (hu 2 (by omega)) (crs_bd hv hw 2))) (by decide)
theorem pu_ab {a A : Int} (h : ab a A) (hA : A < 2147483647) (h0 : a ≠ 0) : pu (P0 : Int) a := pu_sm h0 (by
  have := h.1
  have := h.2
  show (a.natAbs : Int) < 2147483647
  omega)
theorem psm_cg {p : Int} (K E : Nat → Int) : cg p (psm p K E 3) (K 0 * E 0 + K 1 * E 1 + K 2 * E 2) := by
  have h : ∀ i, cg p (psm p K E (i + 1)) (psm p K E i + K i * E i) := fun i => by
    show cg p ((psm p K E i + K i * (E i % p)) % p) _
    exact (cg.mo _).tr ((cg.rf _).ad ((cg.rf _).ml (cg.mo _)))
  refine (h 2).tr (((h 1).tr (((h 0).tr ?_).ad (cg.rf _))).ad (cg.rf _))
  show cg p (0 + K 0 * E 0) _
  rw [Int.zero_add]
  exact cg.rf _
/-- what THE ROW must give for tables by points -/
def ptsP (S : SO) (V : SV) (n : Nat) : Prop := (∀ i, i < n → lea (gq S V i) 3) ∧ ∀ i j, i < n → j < 3 → ab (gq S V i j) 500
theorem aff_eq {S : SO} {V : SV} {M : SM} (hP : ptsP S V 6) (hn : ∀ i, i < 6 → gq S V i 2 ≠ 0) (hD : dt9 (gq S V 0) (gq S V 1) (gq S V 2) ≠ 0) (hE : dt9 (gq S V 3) (gq S V 4) (gq S V 5) ≠ 0) : bpy S V M 6 3 0 = addM M (wgt (affW (gq S V)) (gq S V) (sidF (gq S V) 0) 3) := by
  obtain ⟨g, hg⟩ : ∃ g, g = gq S V := ⟨_, rfl⟩
  rw [← hg] at hn hD hE ⊢
  have hb := hP.2
  rw [← hg] at hb
  have hw0 : affW g 0 = g 0 2 * g 4 2 * g 5 2 := rfl
  have hw1 : affW g 1 = g 1 2 * g 5 2 * g 3 2 := rfl
  have hw2 : affW g 2 = g 2 2 * g 3 2 * g 4 2 := rfl
  have n0 := hn 0 (by omega)
  have n1 := hn 1 (by omega)
  have n2 := hn 2 (by omega)
  have n3 := hn 3 (by omega)
  have n4 := hn 4 (by omega)
  have n5 := hn 5 (by omega)
  have u0 := pu_ab (hb 0 2 (by omega) (by omega)) (by decide) n0
  have u1 := pu_ab (hb 1 2 (by omega) (by omega)) (by decide) n1
  have u2 := pu_ab (hb 2 2 (by omega) (by omega)) (by decide) n2
  have u3 := pu_ab (hb 3 2 (by omega) (by omega)) (by decide) n3
  have u4 := pu_ab (hb 4 2 (by omega) (by omega)) (by decide) n4
  have u5 := pu_ab (hb 5 2 (by omega) (by omega)) (by decide) n5
  have uD := pu_ab (dt9_bd (fun i hi => hb 0 i (by omega) hi) (fun i hi => hb 1 i (by omega) hi) (fun i hi => hb 2 i (by omega) hi)) (by decide) hD
  have uE := pu_ab (dt9_bd (fun i hi => hb 3 i (by omega) hi) (fun i hi => hb 4 i (by omega) hi) (fun i hi => hb 5 i (by omega) hi)) (by decide) hE
  have hp := P0_pr
  have udet : pu (P0 : Int) (det9 (wgt (affW g) g (sidF g 0) 3)) := by
    rw [wgt_det, hw0, hw1, hw2]
    exact pu_mul hp (pu_mul hp (pu_mul hp (pu_mul hp (pu_mul hp (pu_mul hp u0 u4) u5) (pu_mul hp (pu_mul hp u1 u5) u3)) (pu_mul hp (pu_mul hp u2 u3) u4)) uE) (pu_mul hp uD uD)
  have hdet : det9 (wgt (affW g) g (sidF g 0) 3) ≠ 0 := fun q => udet (by rw [q]; exact Int.dvd_zero _)
  have row6 : wgt (affW g) g (sidF g 0) 3 6 = 0 ∧ wgt (affW g) g (sidF g 0) 3 7 = 0 := by
    simp only [wgt, hw0, hw1, hw2, sidF, crs, Nat.reduceDiv, Nat.reduceMod, Nat.reduceAdd, Nat.zero_add]
    constructor <;> grind
  refine bpy_eq hdet ?_ ?_ ?_
  · intro T' hb' ht
    obtain ⟨t1, t2, -⟩ := tri_parts ht
    obtain ⟨z6, z7⟩ := t2 rfl
    rw [show kn 6 = 3 from rfl] at t1
    rw [← hg] at t1
    have hex : ∀ i, i < 3 → ∃ c : Int, ∀ j, j < 3 → pimg T' (g i) j = c * g (3 + i) j := fun i hi => prim (by rw [hg]; exact hP.1 (3 + i) (by omega)) (t1 i hi)
    obtain ⟨c0, hc0⟩ := hex 0 (by omega)
    obtain ⟨c1, hc1⟩ := hex 1 (by omega)
    obtain ⟨c2, hc2⟩ := hex 2 (by omega)
    have hc : ∀ i j, i < 3 → j < 3 → pimg T' (g i) j = vec3 c0 c1 c2 i * g (3 + i) j := by
      intro i j hi hj
      rcases (show i = 0 ∨ i = 1 ∨ i = 2 by omega) with rfl | rfl | rfl
      · exact hc0 j hj
      · exact hc1 j hj
      · exact hc2 j hj
    have e0 := hc0 2 (by omega)
    have e1 := hc1 2 (by omega)
    have e2 := hc2 2 (by omega)
    simp only [pimg, Nat.reduceMul, Nat.reduceAdd, z6, z7, Int.zero_mul, Int.zero_add, Nat.add_zero] at e0 e1 e2
    have k01 : c0 * affW g 1 = c1 * affW g 0 := by
      rw [hw0, hw1]
      refine Int.eq_of_mul_eq_mul_left (Int.mul_ne_zero n3 n4) ?_
      grind
    have k02 : c0 * affW g 2 = c2 * affW g 0 := by
      rw [hw0, hw2]
      refine Int.eq_of_mul_eq_mul_left (Int.mul_ne_zero n3 n5) ?_
      grind
    have k12 : c1 * affW g 2 = c2 * affW g 1 := by
      rw [hw1, hw2]
      refine Int.eq_of_mul_eq_mul_left (Int.mul_ne_zero n4 n5) ?_
      grind
    refine wgt_uni hD hc (fun i j hi hj => ?_)
    rcases (show i = 0 ∨ i = 1 ∨ i = 2 by omega) with rfl | rfl | rfl <;> rcases (show j = 0 ∨ j = 1 ∨ j = 2 by omega) with rfl | rfl | rfl <;> first | rfl | exact k01 | exact k02 | exact k12 | exact k01.symm | exact k02.symm | exact k12.symm
  · intro hf
    have uW := pu_mul hp (pu_mul hp u3 u4) u5
    have u1' : pu (P0 : Int) (1 : Int) := pu_sm (by decide) (by decide)
    rw [prm_0]
    refine tel_ok hp (by decide) (fun i hi => bpT_rz (prm_ok 0) 6 S V i) udet hf uW u1' (fun n hn9 => ?_)
    show cg P0 (g 3 2 * g 4 2 * g 5 2 * affT P0 S V n) (1 * wgt (affW g) g (sidF g 0) 3 n)
    have hK : ∀ i, i < 3 → cg P0 (g (3 + i) 2 * affK P0 S V i) (g i 2) := by
      intro i hi
      unfold affK
      rw [← hg]
      have ui : pu (P0 : Int) (g (3 + i) 2) := pu_ab (hb (3 + i) 2 (by omega) (by omega)) (by decide) (hn (3 + i) (by omega))
      have h1 := cg_inv hp ui
      have h2 : cg P0 (g (3 + i) 2 * (g i 2 % P0 * invp P0 (g (3 + i) 2) % P0)) (g (3 + i) 2 * (g i 2 * invp P0 (g (3 + i) 2))) := (cg.rf _).ml ((cg.mo _).tr ((cg.mo _).ml (cg.rf _)))
      refine h2.tr ?_
      have h3 := h1.ml (cg.rf (p := (P0 : Int)) (g i 2))
      rw [Int.one_mul] at h3
      rw [show g (3 + i) 2 * (g i 2 * invp P0 (g (3 + i) 2)) = g (3 + i) 2 * invp P0 (g (3 + i) 2) * g i 2 by grind]
      exact h3
    have h0 := hK 0 (by omega)
    have h1 := hK 1 (by omega)
    have h2 := hK 2 (by omega)
    have hps := psm_cg (p := P0) (affK P0 S V) (fun i => gq S V (3 + i) (n / 3) * trn S V 0 i (n % 3))
    have hW := (cg.rf (p := (P0 : Int)) (g 3 2 * g 4 2 * g 5 2)).ml hps
    refine hW.tr ?_
    have ex : ∀ i, gq S V (3 + i) (n / 3) * trn S V 0 i (n % 3) = g (3 + i) (n / 3) * sidF g 0 i (n % 3) := fun i => by rw [← hg]; unfold trn sidF; rw [← hg]
    simp only [ex]
    have f0 := (h0.ml (cg.rf (g 4 2 * g 5 2 * (g (3 + 0) (n / 3) * sidF g 0 0 (n % 3)))))
    have f1 := (h1.ml (cg.rf (g 3 2 * g 5 2 * (g (3 + 1) (n / 3) * sidF g 0 1 (n % 3)))))
    have f2 := (h2.ml (cg.rf (g 3 2 * g 4 2 * (g (3 + 2) (n / 3) * sidF g 0 2 (n % 3)))))
    have f := (f0.ad f1).ad f2
    refine (cg.of ?_).tr (f.tr (cg.of ?_))
    · simp only [Nat.reduceAdd]
      generalize affK (P0 : Int) S V 0 = K0
      generalize affK (P0 : Int) S V 1 = K1
      generalize affK (P0 : Int) S V 2 = K2
      grind
    · simp only [wgt, hw0, hw1, hw2, Nat.reduceAdd]
      grind
  · refine tri_of hdet (fun i hi => ?_) (fun _ => row6) (fun q => absurd q (by decide)) (Or.inr (Or.inl rfl))
    have hi3 : i < 3 := hi
    rw [← hg]
    intro a b ha hb2
    rw [wgt_at _ g 3 i a hi3 ha, wgt_at _ g 3 i b hi3 hb2]
    show _ * g (3 + i) b = _ * g (3 + i) a
    grind
