/-! least rows; what holds of every state -/
def lea (z : Nat → Int) (n : Nat) : Prop := gN z n = 1 ∧ 0 < fN z n
theorem gN_scale (c : Int) (z : Nat → Int) : ∀ n, gN (fun j => c * z j) n = c.natAbs * gN z n
  | 0 => by simp [gN]
  | n + 1 => by
    unfold gN
    rw [gN_scale c z n]
    unfold Int.gcd
    rw [Int.natAbs_mul, Int.natAbs_natCast, Int.natAbs_natCast, Nat.gcd_mul_left]
theorem fN_scale {c : Int} (hc : c ≠ 0) (z : Nat → Int) : ∀ n, fN (fun j => c * z j) n = c * fN z n
  | 0 => by simp [fN]
  | n + 1 => by
    unfold fN
    rw [fN_scale hc z n]
    by_cases h : fN z n = 0
    · rw [if_pos h, if_pos (by rw [h, Int.mul_zero])]
    · rw [if_neg h, if_neg (Int.mul_ne_zero hc h)]
theorem fN_no {z : Nat → Int} : ∀ {n : Nat}, fN z n = 0 → ∀ i, i < n → z i ≠ 0 → False
  | 0, _, i, hi, _ => by omega
  | n + 1, h, i, hi, hz => by
    unfold fN at h
    by_cases h0 : fN z n = 0
    · rw [if_pos h0] at h
      by_cases e : i = n
      · rw [e] at hz; exact hz h
      · exact fN_no h0 i (by omega) hz
    · rw [if_neg h0] at h
      exact h0 h
theorem fN_ex {z : Nat → Int} : ∀ {n : Nat}, fN z n ≠ 0 → ∃ f, f < n ∧ fN z n = z f ∧ z f ≠ 0 ∧ ∀ i, i < f → z i = 0
  | 0, h => absurd rfl h
  | n + 1, h => by
    unfold fN at h ⊢
    by_cases h0 : fN z n = 0
    · rw [if_pos h0] at h ⊢
      refine ⟨n, by omega, rfl, h, fun i hi => ?_⟩
      apply Classical.byContradiction
      intro hz
      exact fN_no (n := n) h0 i hi hz
    · rw [if_neg h0]
      obtain ⟨f, h1, h2, h3, h4⟩ := fN_ex h0
      exact ⟨f, by omega, h2, h3, h4⟩
theorem fN_0 {z : Nat → Int} {n : Nat} (h : fN z n = 0) (i : Nat) (hi : i < n) : z i = 0 := Classical.byContradiction (fun hz => fN_no h i hi hz)
/-- rows that go with each other -/
def prp (z w : Nat → Int) (n : Nat) : Prop := ∀ i j, i < n → j < n → z i * w j = z j * w i
theorem lea_uniq {a b : Nat → Int} {n : Nat} (ha : lea a n) (hb : lea b n) (h : prp a b n) (i : Nat) (hi : i < n) : a i = b i := by
  have habs : ∀ i, i < n → (a i).natAbs = (b i).natAbs := by
    intro i hi
    have h1 : gN (fun j => a i * b j) n = gN (fun j => b i * a j) n := gN_congr (fun j hj => by rw [h i j hi hj, Int.mul_comm])
    rw [gN_scale, gN_scale, ha.1, hb.1] at h1
    omega
  obtain ⟨f, f1, f2, f3, f4⟩ := fN_ex (show fN a n ≠ 0 by have := ha.2; omega)
  obtain ⟨g, g1, g2, g3, g4⟩ := fN_ex (show fN b n ≠ 0 by have := hb.2; omega)
  have hfg : f = g := by
    rcases Nat.lt_trichotomy f g with q | q | q
    · have := g4 f q
      have := habs f f1
      omega
    · exact q
    · have := f4 g q
      have := habs g g1
      omega
  subst hfg
  have hp1 := ha.2
  have hp2 := hb.2
  rw [f2] at hp1
  rw [g2] at hp2
  have he := habs f f1
  have hab : a f = b f := by omega
  have h5 := h i f hi f1
  rw [hab, Int.mul_comm (b f)] at h5
  exact Int.eq_of_mul_eq_mul_right g3 h5
theorem lst_lea {z : Nat → Int} {n : Nat} (h : gN z n ≠ 0) : lea (lst z n) n := by
  have hs : ((gN z n : Nat) : Int) * sN z n ≠ 0 := by
    rcases sN_or z n with q | q <;> rw [q] <;> omega
  have e1 : gN z n = gN (fun j => ((gN z n : Nat) : Int) * sN z n * lst z n j) n := gN_congr (fun j hj => lst_mul hj)
  have e2 : fN z n = fN (fun j => ((gN z n : Nat) : Int) * sN z n * lst z n j) n := fN_congr (fun j hj => lst_mul hj)
  rw [gN_scale] at e1
  rw [fN_scale hs] at e2
  have habs : (((gN z n : Nat) : Int) * sN z n).natAbs = gN z n := by
    rcases sN_or z n with q | q <;> rw [q] <;> omega
  rw [habs] at e1
  have hg : gN (lst z n) n = 1 := by
    have : gN z n * 1 = gN z n * gN (lst z n) n := by rw [Nat.mul_one]; exact e1
    exact (Nat.eq_of_mul_eq_mul_left (by omega) this).symm
  refine ⟨hg, ?_⟩
  have hf0 : fN z n ≠ 0 := fun q => h (by
    have hz : ∀ i, i < n → z i = 0 := fN_0 q
    have : gN z n = gN (fun _ => (0 : Int) * 0) n := gN_congr (fun i hi => by rw [hz i hi]; rfl)
    rw [this, gN_scale]
    simp)
  have hpos : 0 < ((gN z n : Nat) : Int) := by omega
  unfold sN at e2
  by_cases q : fN z n < 0
  · rw [if_pos q] at e2
    apply Classical.byContradiction
    intro hc
    have h1 : fN (lst z n) n ≤ 0 := by omega
    have h2 : 0 ≤ ((gN z n : Nat) : Int) * (- fN (lst z n) n) := Int.mul_nonneg (by omega) (by omega)
    have h3 : ((gN z n : Nat) : Int) * -1 * fN (lst z n) n = ((gN z n : Nat) : Int) * (- fN (lst z n) n) := by
      rw [Int.mul_assoc]
      congr 1
      omega
    omega
  · rw [if_neg q, Int.mul_one] at e2
    apply Classical.byContradiction
    intro hc
    have h1 : fN (lst z n) n ≤ 0 := by omega
    have h2 : ((gN z n : Nat) : Int) * fN (lst z n) n ≤ 0 := Int.mul_nonpos_of_nonneg_of_nonpos (by omega) h1
    omega
theorem lea_congr {z w : Nat → Int} {n : Nat} (h : ∀ i, i < n → z i = w i) (hz : lea z n) : lea w n := by
  unfold lea at *
  rw [← gN_congr h, ← fN_congr h]
  exact hz
theorem lrow_lea {z : Nat → Int} {n : Nat} (h : gN z n ≠ 0) : lea (lrow z n) n := lea_congr (fun i hi => (lrow_lt hi).symm) (lst_lea h)
theorem prp_lst {z w : Nat → Int} {n : Nat} (hz : gN z n ≠ 0) (hw : gN w n ≠ 0) (h : prp z w n) : ∀ i, i < n → lst z n i = lst w n i := by
  refine fun i hi => lea_uniq (lst_lea hz) (lst_lea hw) (fun i j hi hj => ?_) i hi
  have h1 := h i j hi hj
  rw [lst_mul (z := z) (n := n) hi, lst_mul (z := z) (n := n) hj, lst_mul (z := w) (n := n) hi, lst_mul (z := w) (n := n) hj] at h1
  have hs : (((gN z n : Nat) : Int) * sN z n) * (((gN w n : Nat) : Int) * sN w n) ≠ 0 := by
    apply Int.mul_ne_zero
    · rcases sN_or z n with q | q <;> rw [q] <;> omega
    · rcases sN_or w n with q | q <;> rw [q] <;> omega
  refine Int.eq_of_mul_eq_mul_left hs ?_
  generalize ((gN z n : Nat) : Int) * sN z n = a at *
  generalize ((gN w n : Nat) : Int) * sN w n = b at *
  grind
theorem fit_lst {z w : Nat → Int} {n : Nat} (h : ∀ i, i < n → lst z n i = lst w n i) : ∀ {k : Nat}, k ≤ n → fit z n k = fit w n k
  | 0, _ => rfl
  | k + 1, hk => by
    unfold fit
    rw [fit_lst h (k := k) (by omega), h k (by omega)]
theorem lrow_lst {z w : Nat → Int} {n : Nat} (h : ∀ i, i < n → lst z n i = lst w n i) : lrow z n = lrow w n := by
  funext i
  unfold lrow
  by_cases hi : i < n
  · rw [if_pos hi, if_pos hi, h i hi]
  · rw [if_neg hi, if_neg hi]
theorem addO_prp {z w : Nat → Int} {n : Nat} (hz : gN z n ≠ 0) (hw : gN w n ≠ 0) (h : prp z w n) (S : SO) (s : Nat) : addO S s n z = addO S s n w := by
  have e := prp_lst hz hw h
  unfold addO
  rw [fit_lst e (Nat.le_refl n), lrow_lst e]
theorem addM_prp {z w : Nat → Int} (hz : gN z 9 ≠ 0) (hw : gN w 9 ≠ 0) (h : prp z w 9) (M : SM) : addM M z = addM M w := by
  have e := prp_lst hz hw h
  unfold addM
  rw [fit_lst e (Nat.le_refl 9), lrow_lst e]
def InvO (S : SO) : Prop := (∀ k, k < S.1 → S.2.1 k ≤ 2 ∧ lea (S.2.2 k) (wid (S.2.1 k))) ∧ ∀ a b, a < S.1 → b < S.1 → a ≠ b → S.2.1 a = S.2.1 b → ∃ i, i < wid (S.2.1 a) ∧ S.2.2 a i ≠ S.2.2 b i
def InvS (S : SS) : Prop := InvO S.1 ∧ goodM S.2.1 ∧ ∀ i, i < 9 → S.2.2.2.2.2 0 i = id9 i
theorem alB_f {P : Nat → Bool} : ∀ {n : Nat}, alB P n = false → ∃ i, i < n ∧ P i = false
  | 0, h => by simp [alB] at h
  | n + 1, h => by
    unfold alB at h
    by_cases h1 : P n = false
    · exact ⟨n, by omega, h1⟩
    · have h2 : alB P n = false := by simpa [h1] using h
      obtain ⟨i, hi, q⟩ := alB_f h2
      exact ⟨i, by omega, q⟩
theorem invO_add {S : SO} (h : InvO S) {s : Nat} (hs : s ≤ 2) {z : Nat → Int} (hz : gN z (wid s) ≠ 0) : InvO (addO S s (wid s) z).2 := by
  unfold addO
  split
  · cases hf : fnd (hitO S.2.1 S.2.2 s (wid s) (lrow z (wid s))) S.1 0 with
    | some k => exact h
    | none =>
      dsimp only
      split
      · exact h
      · have hne : ∀ k, k < S.1 → S.2.1 k = s → ∃ i, i < wid s ∧ S.2.2 k i ≠ lrow z (wid s) i := by
          intro k hk hks
          have h1 := fnd_no hf k (by omega) (by omega)
          unfold hitO at h1
          rw [decide_eq_true hks, Bool.true_and] at h1
          obtain ⟨i, hi, q⟩ := alB_f h1
          exact ⟨i, hi, of_decide_eq_false q⟩
        refine ⟨fun k hk => ?_, fun a b ha hb hab hsab => ?_⟩
        · dsimp only at hk ⊢
          by_cases e : k = S.1
          · simp only [e, if_true]
            exact ⟨hs, lrow_lea hz⟩
          · simp only [if_neg e]
            exact h.1 k (by omega)
        · dsimp only at ha hb hsab ⊢
          by_cases ea : a = S.1
          · by_cases eb : b = S.1
            · omega
            · simp only [ea, if_true, if_neg eb] at hsab ⊢
              obtain ⟨i, hi, q⟩ := hne b (by omega) hsab.symm
              exact ⟨i, hi, fun q2 => q q2.symm⟩
          · by_cases eb : b = S.1
            · simp only [eb, if_true, if_neg ea] at hsab ⊢
              obtain ⟨i, hi, q⟩ := hne a (by omega) hsab
              exact ⟨i, by rw [hsab]; exact hi, q⟩
            · simp only [if_neg ea, if_neg eb] at hsab ⊢
              exact h.2 a b (by omega) (by omega) hab hsab
  · exact h
theorem crs_prp {u v : Nat → Int} (h : ∀ i, i < 3 → crs u v i = 0) : prp u v 3 := by
  have h0 := h 0 (by omega)
  have h1 := h 1 (by omega)
  have h2 := h 2 (by omega)
  unfold crs at h0 h1 h2
  simp only [Nat.reduceAdd, Nat.reduceMod] at h0 h1 h2
  intro i j hi hj
  rcases (show i = 0 ∨ i = 1 ∨ i = 2 by omega) with rfl | rfl | rfl <;> rcases (show j = 0 ∨ j = 1 ∨ j = 2 by omega) with rfl | rfl | rfl <;> first | rfl | grind
theorem inv_apart {S : SO} (h : InvO S) : apartO S := by
  intro a b ha hb hab hs hle
  have hw : wid (S.2.1 a) = 3 := by unfold wid; rw [if_neg (by omega)]
  apply Classical.byContradiction
  intro hc
  have hz : ∀ i, i < 3 → crs (S.2.2 a) (S.2.2 b) i = 0 := fun i hi => Classical.byContradiction (fun q => hc ⟨i, hi, q⟩)
  have la := (h.1 a ha).2
  have lb := (h.1 b hb).2
  rw [hw] at la
  rw [← hs, hw] at lb
  obtain ⟨i, hi, q⟩ := h.2 a b ha hb hab hs
  rw [hw] at hi
  exact q (lea_uniq la lb (crs_prp hz) i hi)
theorem mulL {x y : Nat → Int} (i : Nat) (hi : i < 9) : mul9 (adj9 x) (mul9 x y) i = det9 x * y i := by
  rcases (show i = 0 ∨ i = 1 ∨ i = 2 ∨ i = 3 ∨ i = 4 ∨ i = 5 ∨ i = 6 ∨ i = 7 ∨ i = 8 by omega) with rfl | rfl | rfl | rfl | rfl | rfl | rfl | rfl | rfl <;> simp only [mul9, adj9, det9, Nat.reduceDiv, Nat.reduceMod, Nat.reduceMul, Nat.reduceAdd] <;> grind
theorem mulR {x y : Nat → Int} (i : Nat) (hi : i < 9) : mul9 (mul9 x y) (adj9 y) i = det9 y * x i := by
  rcases (show i = 0 ∨ i = 1 ∨ i = 2 ∨ i = 3 ∨ i = 4 ∨ i = 5 ∨ i = 6 ∨ i = 7 ∨ i = 8 by omega) with rfl | rfl | rfl | rfl | rfl | rfl | rfl | rfl | rfl <;> simp only [mul9, adj9, det9, Nat.reduceDiv, Nat.reduceMod, Nat.reduceMul, Nat.reduceAdd] <;> grind
theorem det_tr (x : Nat → Int) : det9 (tr9 x) = det9 x := by
  simp only [tr9, det9, Nat.reduceDiv, Nat.reduceMod, Nat.reduceMul, Nat.reduceAdd]
  grind
theorem mul_0R {x y : Nat → Int} (h : ∀ i, i < 9 → y i = 0) (i : Nat) (hi : i < 9) : mul9 x y i = 0 := by
  have := Nat.mod_lt i (show 0 < 3 by omega)
  unfold mul9
  rw [h _ (by omega), h _ (by omega), h _ (by omega)]
  simp
theorem mul_0L {x y : Nat → Int} (h : ∀ i, i < 9 → x i = 0) (i : Nat) (hi : i < 9) : mul9 x y i = 0 := by
  have := Nat.mod_lt i (show 0 < 3 by omega)
  unfold mul9
  rw [h _ (by omega), h _ (by omega), h _ (by omega)]
  simp
theorem kerL {x y : Nat → Int} (hd : det9 x ≠ 0) (h : ∀ i, i < 9 → mul9 x y i = 0) (i : Nat) (hi : i < 9) : y i = 0 := by
  have h1 := mulL (x := x) (y := y) i hi
  rw [mul_0R h i hi] at h1
  rcases Int.mul_eq_zero.mp h1.symm with q | q
  · exact absurd q hd
  · exact q
theorem kerR {x y : Nat → Int} (hd : det9 y ≠ 0) (h : ∀ i, i < 9 → mul9 x y i = 0) (i : Nat) (hi : i < 9) : x i = 0 := by
  have h1 := mulR (x := x) (y := y) i hi
  rw [mul_0L h i hi] at h1
  rcases Int.mul_eq_zero.mp h1.symm with q | q
  · exact absurd q hd
  · exact q
theorem sq_ne {d : Int} (h : d ≠ 0) : d * d ≠ 0 := Int.mul_ne_zero h h
theorem pimg_0 {T r : Nat → Int} (hd : det9 T ≠ 0) (h : ∀ i, i < 3 → pimg T r i = 0) (i : Nat) (hi : i < 3) : r i = 0 := by
  have h0 := h 0 (by omega)
  have h1 := h 1 (by omega)
  have h2 := h 2 (by omega)
  simp only [pimg, Nat.reduceMul, Nat.reduceAdd] at h0 h1 h2
  have key : det9 T * r i = 0 := by
    rcases (show i = 0 ∨ i = 1 ∨ i = 2 by omega) with rfl | rfl | rfl <;> simp only [det9] <;> grind
  rcases Int.mul_eq_zero.mp key with q | q
  · exact absurd q hd
  · exact q
theorem limg_0 {T r : Nat → Int} (hd : det9 T ≠ 0) (h : ∀ i, i < 3 → limg T r i = 0) (i : Nat) (hi : i < 3) : r i = 0 := by
  have h0 := h 0 (by omega)
  have h1 := h 1 (by omega)
  have h2 := h 2 (by omega)
  simp only [limg, Nat.reduceMul, Nat.reduceAdd] at h0 h1 h2
  have key : det9 T * r i = 0 := by
    rcases (show i = 0 ∨ i = 1 ∨ i = 2 by omega) with rfl | rfl | rfl <;> simp only [det9] <;> grind
  rcases Int.mul_eq_zero.mp key with q | q
  · exact absurd q hd
  · exact q
theorem cimg_0 {A c : Nat → Int} (hd : det9 A ≠ 0) (h : ∀ i, i < 6 → cimg c A i = 0) (i : Nat) (hi : i < 6) : c i = 0 := by
  have h0 := h 0 (by omega)
  have h1 := h 1 (by omega)
  have h2 := h 2 (by omega)
  have h3 := h 3 (by omega)
  have h4 := h 4 (by omega)
  have h5 := h 5 (by omega)
  simp only [cimg] at h0 h1 h2 h3 h4 h5
  simp at h0 h1 h2 h3 h4 h5
  have h1 : mul9 (tr9 A) (mul9 (ev6 c) A) 1 = 0 := by omega
  have h3 : mul9 (tr9 A) (mul9 (ev6 c) A) 2 = 0 := by omega
  have h4 : mul9 (tr9 A) (mul9 (ev6 c) A) 5 = 0 := by omega
  have s1 : mul9 (tr9 A) (mul9 (ev6 c) A) 3 = mul9 (tr9 A) (mul9 (ev6 c) A) 1 := by
    simp only [mul9, tr9, ev6, Nat.reduceDiv, Nat.reduceMod, Nat.reduceMul, Nat.reduceAdd]
    simp
    grind
  have s2 : mul9 (tr9 A) (mul9 (ev6 c) A) 6 = mul9 (tr9 A) (mul9 (ev6 c) A) 2 := by
    simp only [mul9, tr9, ev6, Nat.reduceDiv, Nat.reduceMod, Nat.reduceMul, Nat.reduceAdd]
    simp
    grind
  have s3 : mul9 (tr9 A) (mul9 (ev6 c) A) 7 = mul9 (tr9 A) (mul9 (ev6 c) A) 5 := by
    simp only [mul9, tr9, ev6, Nat.reduceDiv, Nat.reduceMod, Nat.reduceMul, Nat.reduceAdd]
    simp
    grind
  have hN : ∀ i, i < 9 → mul9 (tr9 A) (mul9 (ev6 c) A) i = 0 := by
    intro i hi
    rcases (show i = 0 ∨ i = 1 ∨ i = 2 ∨ i = 3 ∨ i = 4 ∨ i = 5 ∨ i = 6 ∨ i = 7 ∨ i = 8 by omega) with rfl | rfl | rfl | rfl | rfl | rfl | rfl | rfl | rfl
    · exact h0
    · exact h1
    · exact h3
    · rw [s1]; exact h1
    · exact h2
    · exact h4
    · rw [s2]; exact h3
    · rw [s3]; exact h4
    · exact h5
  have hE := kerR hd (kerL (by rw [det_tr]; exact hd) hN)
  have e0 := hE 0 (by omega)
  have e1 := hE 1 (by omega)
  have e2 := hE 2 (by omega)
  have e4 := hE 4 (by omega)
  have e5 := hE 5 (by omega)
  have e8 := hE 8 (by omega)
  simp [ev6] at e0 e1 e2 e4 e5 e8
  rcases (show i = 0 ∨ i = 1 ∨ i = 2 ∨ i = 3 ∨ i = 4 ∨ i = 5 by omega) with rfl | rfl | rfl | rfl | rfl | rfl <;> omega
theorem inv_imgs {S : SS} (h : InvS S) : imgs S := by
  intro m k hm hk q
  have hz := gN_zero q
  obtain ⟨hs, hl⟩ := h.1.1 k hk
  have hd := h.2.1 m hm
  have hda : det9 (adj9 (S.2.1.2 m)) ≠ 0 := by rw [tadj]; exact sq_ne hd
  have hall : ∀ i, i < wid (S.1.2.1 k) → S.1.2.2 k i = 0 := by
    rcases (show S.1.2.1 k = 0 ∨ S.1.2.1 k = 1 ∨ S.1.2.1 k = 2 by omega) with e | e | e
    · rw [e] at hz ⊢
      exact pimg_0 hd hz
    · rw [e] at hz ⊢
      exact limg_0 hda hz
    · rw [e] at hz ⊢
      exact cimg_0 hda hz
  have : gN (S.1.2.2 k) (wid (S.1.2.1 k)) = gN (fun _ => (0 : Int) * 0) (wid (S.1.2.1 k)) := gN_congr (fun i hi => by rw [hall i hi]; rfl)
  rw [gN_scale] at this
  rw [hl.1] at this
  simp at this
theorem inv_gd {S : SS} (h : InvS S) : goodM (1, S.2.2.2.2.2) := by
  intro k hk
  have : k = 0 := by
    have : k < 1 := hk
    omega
  subst this
  show det9 (S.2.2.2.2.2 0) ≠ 0
  rw [det9_congr h.2.2]
  decide
theorem goodM_add {M : SM} (h : goodM M) {z : Nat → Int} (hz : det9 z ≠ 0) : goodM (addM M z).2 := by
  unfold addM
  split
  · cases fnd (hitM M.2 (lrow z 9)) M.1 0 with
    | some k => exact h
    | none =>
      dsimp only
      split
      · exact h
      · intro k hk
        dsimp only at hk ⊢
        by_cases e : k = M.1
        · rw [if_pos e]; exact lrow_det hz
        · rw [if_neg e]; exact h k (by omega)
  · exact h
theorem inv_O {S : SS} (h : InvS S) {q : Int × SO} (hq : InvO q.2) : InvS (withO q S).2 := ⟨hq, h.2.1, h.2.2⟩
theorem inv_M {S : SS} (h : InvS S) {q : Int × SM} (hq : goodM q.2) : InvS (withM q S).2 := ⟨h.1, hq, h.2.2⟩
theorem inv_sp3 {S : SO} (h : InvO S) {s : Nat} (hs : s ≤ 1) (a b c : Int) : InvO (sp3 S s a b c).2 := by
  unfold sp3
  split
  · split
    · exact h
    · next hn =>
      have hw : wid s = 3 := by unfold wid; rw [if_neg (by omega)]
      have := invO_add (S := S) h (s := s) (by omega) (z := vec3 a b c) (by
        rw [hw]
        intro q
        have hz := gN_zero q
        exact hn ⟨hz 0 (by omega), hz 1 (by omega), hz 2 (by omega)⟩)
      rw [hw] at this
      exact this
  · exact h
theorem inv_point {S : SS} (h : InvS S) (x y w : Int) : InvS (sp_point S x y w).2 := inv_O h (inv_sp3 h.1 (by omega) x y w)
theorem inv_line {S : SS} (h : InvS S) (x y w : Int) : InvS (sp_line S x y w).2 := inv_O h (inv_sp3 h.1 (by omega) x y w)
theorem inv_conic {S : SS} (h : InvS S) (a b c d e f : Int) : InvS (sp_conic S a b c d e f).2 := by
  refine inv_O h ?_
  unfold sp6
  split
  · split
    · exact h.1
    · next hn =>
      exact invO_add (S := S.1) h.1 (s := 2) (by omega) (z := vec6 a b c d e f) (by
        intro q
        have hz := gN_zero q
        exact hn ⟨hz 0 (by decide), hz 1 (by decide), hz 2 (by decide), hz 3 (by decide), hz 4 (by decide), hz 5 (by decide)⟩)
  · exact h.1
theorem inv_join {S : SS} (h : InvS S) (p q : Int) : InvS (sp_join S p q).2 := by
  refine inv_O h ?_
  unfold sp_joinO
  split
  · next hc =>
    split
    · exact h.1
    · next hpq =>
      have hap := inv_apart h.1
      obtain ⟨s, hs, a, b, ha, hb, ea, eb, sa, sb⟩ : ∃ s, s ≤ 1 ∧ ∃ a b : Nat, a < S.1.1 ∧ b < S.1.1 ∧ p = a ∧ q = b ∧ S.1.2.1 a = s ∧ S.1.2.1 b = s := by
        rcases hc with ⟨h1, h2⟩ | ⟨h1, h2⟩
        · obtain ⟨a, a1, a2, a3⟩ := srtI_nn (s := 0) h1
          obtain ⟨b, b1, b2, b3⟩ := srtI_nn (s := 0) h2
          exact ⟨0, by omega, a, b, a1, b1, a2, b2, a3, b3⟩
        · obtain ⟨a, a1, a2, a3⟩ := srtI_nn (s := 1) h1
          obtain ⟨b, b1, b2, b3⟩ := srtI_nn (s := 1) h2
          exact ⟨1, by omega, a, b, a1, b1, a2, b2, a3, b3⟩
      obtain ⟨i, hi, hne⟩ := hap a b ha hb (by omega) (by rw [sa, sb]) (by omega)
      rw [ea, eb, Int.toNat_natCast, Int.toNat_natCast]
      have hg := gN_ne hi hne
      by_cases h0 : srtI S.1 (a : Int) = 0
      · rw [if_pos h0]
        exact invO_add h.1 (s := 1) (by omega) hg
      · rw [if_neg h0]
        exact invO_add h.1 (s := 0) (by omega) hg
  · exact h.1
theorem inv_image {S : SS} (h : InvS S) (m k : Int) : InvS (sp_image S m k).2 := by
  refine inv_O h ?_
  unfold sp_imageO
  split
  · next hc =>
    have hg := inv_imgs h m.toNat k.toNat (by omega) (by omega)
    exact invO_add h.1 (h.1.1 k.toNat (by omega)).1 hg
  · exact h.1
theorem inv_then {S : SS} (h : InvS S) (a b : Int) : InvS (sp_then S a b).2 := by
  unfold sp_then
  split
  · next hc =>
    refine inv_M h (goodM_add h.2.1 ?_)
    rw [tdet]
    exact Int.mul_ne_zero (h.2.1 _ (by omega)) (h.2.1 _ (by omega))
  · exact h
theorem inv_back {S : SS} (h : InvS S) (a : Int) : InvS (sp_back S a).2 := by
  unfold sp_back
  split
  · next hc =>
    refine inv_M h (goodM_add h.2.1 ?_)
    rw [tadj]
    exact sq_ne (h.2.1 _ (by omega))
  · exact h
theorem inv_give {S : SS} (h : InvS S) (k : Int) : InvS (sp_give S k).2 := by
  unfold sp_give
  split
  · split
    · exact h
    · exact ⟨h.1, h.2.1, h.2.2⟩
  · exact h
theorem inv_seed {S : SS} (h : InvS S) (k : Int) : InvS (sp_seed S k).2 := by
  unfold sp_seed
  split
  · split
    · exact h
    · exact ⟨h.1, h.2.1, h.2.2⟩
  · exact h
theorem gr1_0 (M : SM) (sv : Nat → Nat) (mo k : Nat) : ∀ (d s : Nat) (P : SM), 1 ≤ P.1 → 1 ≤ (gr1 M sv mo k d s P).2.1 ∧ (gr1 M sv mo k d s P).2.2 0 = P.2 0
  | 0, s, P, h => ⟨h, rfl⟩
  | d + 1, s, P, h => by
    unfold gr1
    split
    · split
      · exact gr1_0 M sv mo k d (s + 1) P h
      · split
        · exact ⟨h, rfl⟩
        · have := gr1_0 M sv mo k d (s + 1) (P.1 + 1, fun j => if j = P.1 then lrow (mul9 (M.2 (sv s)) (P.2 k)) 9 else P.2 j) (by show 1 ≤ P.1 + 1; omega)
          refine ⟨this.1, this.2.trans ?_⟩
          show (if 0 = P.1 then _ else P.2 0) = P.2 0
          rw [if_neg (by omega)]
    · exact ⟨h, rfl⟩
theorem gr2_0 (M : SM) (sv : Nat → Nat) (mo ns : Nat) : ∀ (f k : Nat) (P : SM), 1 ≤ P.1 → 1 ≤ (gr2 M sv mo ns f k P).2.1 ∧ (gr2 M sv mo ns f k P).2.2 0 = P.2 0
  | 0, k, P, h => ⟨h, rfl⟩
  | f + 1, k, P, h => by
    have h1 := gr1_0 M sv mo k ns 0 P h
    unfold gr2
    split
    · split
      · next r P' q => rw [q] at h1; exact h1
      · next P' q =>
        rw [q] at h1
        have h2 := gr2_0 M sv mo ns f (k + 1) P' h1.1
        exact ⟨h2.1, h2.2.trans h1.2⟩
    · exact ⟨h, rfl⟩
theorem inv_group {S : SS} (h : InvS S) (k : Int) : InvS (sp_group S k).2 := by
  unfold sp_group
  split
  · refine ⟨h.1, h.2.1, fun i hi => ?_⟩
    show (gr2 S.2.1 S.2.2.2.1.2 k.toNat S.2.2.2.1.1 49 0 (1, S.2.2.2.2.2)).2.2 0 i = id9 i
    rw [(gr2_0 S.2.1 S.2.2.2.1.2 k.toNat S.2.2.2.1.1 49 0 (1, S.2.2.2.2.2) (by show 1 ≤ 1; omega)).2]
    exact h.2.2 i hi
  · exact h
theorem bpy_good {S : SO} {V : SV} {M : SM} (h : goodM M) (kd : Nat) : ∀ d k, goodM (bpy S V M kd d k).2
  | 0, k => h
  | d + 1, k => by
    unfold bpy
    split
    · next T hT =>
      split
      · next ht => exact goodM_add h (triB_det ht)
      · exact bpy_good h kd d (k + 1)
    · exact bpy_good h kd d (k + 1)
theorem inv_make {S : SS} (h : InvS S) (k u v : Int) : InvS (sp_make S k u v).2 := by
  unfold sp_make
  split
  · next hc =>
    refine ⟨h.1, ?_, h.2.2⟩
    show goodM (mkM S.1 S.2.2.1 S.2.1 k.toNat u v).2
    unfold mkM
    split
    · next hb =>
      split
      · exact bpy_good h.2.1 _ _ _
      · next hk => exact goodM_add h.2.1 (mkT_det hk (by omega) hb)
    · exact h.2.1
  · exact h
theorem rkv_gN {m : Nat → Int} (h0 : (rkv m).1 ≠ 0) (h3 : (rkv m).1 ≠ 3) : gN (rkv m).2 3 ≠ 0 := by
  intro q
  have hz := gN_zero q
  exact rkv_nz h0 h3 (hz 0 (by omega)) (hz 1 (by omega)) (hz 2 (by omega))
theorem inv_fixed {S : SS} (h : InvS S) (m k : Int) : InvS (sp_fixed S m k).2 := by
  refine inv_O h ?_
  unfold sp_fixedO
  split
  · split
    · exact h.1
    · next hv =>
      split
      · exact h.1
      · next h0 =>
        have hd := (vlI_in hv).2
        have hg := rkv_gN (m := lss (S.2.1.2 m.toNat) (vlI (S.2.1.2 m.toNat) k)) h0 (fun q => absurd hd (rkv_3.mp q))
        by_cases h2 : (fixv (S.2.1.2 m.toNat) (vlI (S.2.1.2 m.toNat) k)).1 = 2
        · rw [if_pos h2]
          exact invO_add h.1 (s := 0) (by omega) hg
        · rw [if_neg h2]
          exact invO_add h.1 (s := 1) (by omega) hg
  · exact h.1
