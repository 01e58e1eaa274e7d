/-! tables by points: what they are, and that there is one -/
theorem prim {u v : Nat → Int} (hv : lea v 3) (h : prp u v 3) : ∃ c : Int, ∀ i, i < 3 → u i = c * v i := by
  by_cases hu : gN u 3 = 0
  · exact ⟨0, fun i hi => by rw [gN_zero hu i hi, Int.zero_mul]⟩
  · have hl := prp_lst hu (show gN v 3 ≠ 0 by rw [hv.1]; decide) h
    have hs : sN v 3 = 1 := by unfold sN; rw [if_neg (by have := hv.2; omega)]
    refine ⟨((gN u 3 : Nat) : Int) * sN u 3, fun i hi => ?_⟩
    have e : v i = lst v 3 i := by
      have := lst_mul (z := v) (n := 3) hi
      rw [hv.1, hs] at this
      simpa using this
    rw [e, ← hl i hi]
    exact lst_mul hi
theorem takB_prp {S : SO} {V : SV} {T : Nat → Int} {i j : Nat} (h : takB S V T i j = true) : prp (pimg T (gq S V i)) (gq S V j) 3 := by
  unfold takB at h
  obtain ⟨h1, h2, h3⟩ := of_decide_eq_true h
  intro a b ha hb
  rcases (show a = 0 ∨ a = 1 ∨ a = 2 by omega) with rfl | rfl | rfl <;> rcases (show b = 0 ∨ b = 1 ∨ b = 2 by omega) with rfl | rfl | rfl <;> first | rfl | assumption | (symm; assumption)
theorem prp_takB {S : SO} {V : SV} {T : Nat → Int} {i j : Nat} (h : prp (pimg T (gq S V i)) (gq S V j) 3) : takB S V T i j = true := by
  unfold takB
  exact decide_eq_true ⟨h 0 1 (by omega) (by omega), h 1 2 (by omega) (by omega), h 0 2 (by omega) (by omega)⟩
theorem sid_dot {g : Nat → Nat → Int} {i k : Nat} (hi : i < 3) (hk : k < 3) (s : Nat) : dt3 (sidF g s i) (g (s + k)) = if i = k then dt9 (g s) (g (s + 1)) (g (s + 2)) else 0 := by
  rcases (show i = 0 ∨ i = 1 ∨ i = 2 by omega) with rfl | rfl | rfl <;> rcases (show k = 0 ∨ k = 1 ∨ k = 2 by omega) with rfl | rfl | rfl <;> simp only [dt3, dt9, sidF, crs, Nat.reduceAdd, Nat.reduceMod, Nat.add_zero] <;> simp <;> grind
/-- Cramer -/
theorem cramer (g : Nat → Nat → Int) (s j : Nat) (hj : j < 3) (r : Nat → Int) : dt3 (sidF g s 0) r * g s j + dt3 (sidF g s 1) r * g (s + 1) j + dt3 (sidF g s 2) r * g (s + 2) j = dt9 (g s) (g (s + 1)) (g (s + 2)) * r j := by
  rcases (show j = 0 ∨ j = 1 ∨ j = 2 by omega) with rfl | rfl | rfl <;> simp only [dt3, dt9, sidF, crs, Nat.reduceAdd, Nat.reduceMod, Nat.add_zero] <;> grind
theorem wgt_img (w : Nat → Int) (g F : Nat → Nat → Int) (s j : Nat) (hj : j < 3) (r : Nat → Int) : pimg (wgt w g F s) r j = w 0 * dt3 (F 0) r * g s j + w 1 * dt3 (F 1) r * g (s + 1) j + w 2 * dt3 (F 2) r * g (s + 2) j := by
  unfold pimg wgt dt3
  rw [show 3 * j / 3 = j by omega, show 3 * j % 3 = 0 by omega, show (3 * j + 1) / 3 = j by omega, show (3 * j + 1) % 3 = 1 by omega, show (3 * j + 2) / 3 = j by omega, show (3 * j + 2) % 3 = 2 by omega]
  grind
theorem wgt_at (w : Nat → Int) (g : Nat → Nat → Int) (s i j : Nat) (hi : i < 3) (hj : j < 3) : pimg (wgt w g (sidF g 0) s) (g i) j = dt9 (g 0) (g 1) (g 2) * w i * g (s + i) j := by
  rw [wgt_img w g _ s j hj]
  have d0 := sid_dot (g := g) (i := 0) (k := i) (by omega) hi 0
  have d1 := sid_dot (g := g) (i := 1) (k := i) (by omega) hi 0
  have d2 := sid_dot (g := g) (i := 2) (k := i) (by omega) hi 0
  rw [Nat.zero_add, Nat.zero_add, Nat.zero_add] at d0 d1 d2
  rw [d0, d1, d2]
  rcases (show i = 0 ∨ i = 1 ∨ i = 2 by omega) with rfl | rfl | rfl <;> simp <;> grind
theorem wgt_det (w : Nat → Int) (g : Nat → Nat → Int) (s : Nat) : det9 (wgt w g (sidF g 0) s) = w 0 * w 1 * w 2 * dt9 (g s) (g (s + 1)) (g (s + 2)) * (dt9 (g 0) (g 1) (g 2) * dt9 (g 0) (g 1) (g 2)) := by
  have e : ∀ n, n < 9 → wgt w g (sidF g 0) s n = mul9 (fun i => w (i % 3) * g (s + i % 3) (i / 3)) (adj9 (fun i => g (i % 3) (i / 3))) n := by
    intro n hn
    rcases (show n = 0 ∨ n = 1 ∨ n = 2 ∨ n = 3 ∨ n = 4 ∨ n = 5 ∨ n = 6 ∨ n = 7 ∨ n = 8 by omega) with rfl | rfl | rfl | rfl | rfl | rfl | rfl | rfl | rfl <;> simp only [wgt, sidF, crs, mul9, adj9, Nat.reduceDiv, Nat.reduceMod, Nat.reduceMul, Nat.reduceAdd, Nat.zero_add, Nat.add_zero] <;> grind
  rw [det9_congr e, tdet, tadj]
  have e1 : det9 (fun i => w (i % 3) * g (s + i % 3) (i / 3)) = w 0 * w 1 * w 2 * dt9 (g s) (g (s + 1)) (g (s + 2)) := by
    simp only [det9, dt9, crs, Nat.reduceDiv, Nat.reduceMod, Nat.reduceMul, Nat.reduceAdd, Nat.add_zero]
    grind
  have e2 : det9 (fun i => g (i % 3) (i / 3)) = dt9 (g 0) (g 1) (g 2) := by
    simp only [det9, dt9, crs, Nat.reduceDiv, Nat.reduceMod, Nat.reduceMul, Nat.reduceAdd]
    grind
  rw [e1, e2]
theorem from_img {T c : Nat → Int} {g : Nat → Nat → Int} {s : Nat} (h : ∀ i j, i < 3 → j < 3 → pimg T (g i) j = c i * g (s + i) j) (n : Nat) (hn : n < 9) : dt9 (g 0) (g 1) (g 2) * T n = wgt c g (sidF g 0) s n := by
  have h0 := h 0 (n / 3) (by omega) (by omega)
  have h1 := h 1 (n / 3) (by omega) (by omega)
  have h2 := h 2 (n / 3) (by omega) (by omega)
  unfold wgt
  rw [Nat.add_zero] at h0
  rw [← h0, ← h1, ← h2]
  rcases (show n = 0 ∨ n = 1 ∨ n = 2 ∨ n = 3 ∨ n = 4 ∨ n = 5 ∨ n = 6 ∨ n = 7 ∨ n = 8 by omega) with rfl | rfl | rfl | rfl | rfl | rfl | rfl | rfl | rfl <;> simp only [pimg, sidF, dt9, crs, Nat.reduceDiv, Nat.reduceMod, Nat.reduceMul, Nat.reduceAdd, Nat.zero_add, Nat.add_zero] <;> grind
theorem wgt_sym {c w : Nat → Int} (h : ∀ i j, i < 3 → j < 3 → c i * w j = c j * w i) (g F : Nat → Nat → Int) (s a b : Nat) : wgt c g F s a * wgt w g F s b = wgt c g F s b * wgt w g F s a := by
  have h1 := h 0 1 (by omega) (by omega)
  have h2 := h 0 2 (by omega) (by omega)
  have h3 := h 1 2 (by omega) (by omega)
  unfold wgt
  generalize g s (a / 3) * F 0 (a % 3) = x0 at *
  have e : ∀ (w0 p q : Int), w0 * p * q = w0 * (p * q) := fun _ _ _ => Int.mul_assoc _ _ _
  simp only [e]
  generalize g s (a / 3) * F 0 (a % 3) = x0
  generalize g (s + 1) (a / 3) * F 1 (a % 3) = x1
  generalize g (s + 2) (a / 3) * F 2 (a % 3) = x2
  generalize g s (b / 3) * F 0 (b % 3) = y0
  generalize g (s + 1) (b / 3) * F 1 (b % 3) = y1
  generalize g (s + 2) (b / 3) * F 2 (b % 3) = y2
  grind
theorem wgt_uni {T c w : Nat → Int} {g : Nat → Nat → Int} {s : Nat} (hD : dt9 (g 0) (g 1) (g 2) ≠ 0) (h : ∀ i j, i < 3 → j < 3 → pimg T (g i) j = c i * g (s + i) j) (hw : ∀ i j, i < 3 → j < 3 → c i * w j = c j * w i) : prp T (wgt w g (sidF g 0) s) 9 := by
  intro a b ha hb
  refine Int.eq_of_mul_eq_mul_left hD ?_
  rw [← Int.mul_assoc, ← Int.mul_assoc, from_img h a ha, from_img h b hb]
  exact wgt_sym hw g _ s a b
