/-! the loop and the start -/
def klw_head : List xI := [(18, .iload_n 3, 1), (19, .aload_n 0, 1), (20, .arraylength, 1), (21, .bipush 7, 2), (23, .isub, 1), (24, .if_icmp .gt 905, 3), (27, .aload_n 0, 1), (28, .iload_n 3, 1), (29, .iaload, 1), (30, .bipush 31, 2), (32, .iand, 1), (33, .tableswitch 890 0 22 #[107, 150, 193, 268, 301, 334, 367, 390, 454, 477, 520, 543, 576, 609, 632, 665, 688, 722, 755, 788, 811, 834, 867], 107)]
theorem klw_head_ok : xsf cL_law klw_head := ⟨by decide +kernel, by decide +kernel⟩
def klw_tail : List xI := [(923, .iinc 3 7, 3), (926, .goto (-908), 3), (929, .iconst 1, 1), (930, .ireturn, 1)]
theorem klw_tail_ok : xsf cL_law klw_tail := ⟨by decide +kernel, by decide +kernel⟩
def klw_init : List xI := [(0, .new 7, 3), (3, .dup, 1), (4, .invokespecial 9, 3), (7, .astore_n 1, 1), (8, .new 10, 3), (11, .dup, 1), (12, .invokespecial 12, 3), (15, .astore_n 2, 1), (16, .iconst 0, 1), (17, .istore_n 3, 1), (18, .iload_n 3, 1)]
theorem klw_init_ok : xsf cL_law klw_init := ⟨by decide +kernel, by decide +kernel⟩
theorem and31 (x : Int32) : ∃ t : Nat, t < 32 ∧ x &&& (Int8.ofInt 31).toInt32 = nI t := by
  refine ⟨(x &&& 31).toBitVec.toNat, ?_, ?_⟩
  · have h1 : (x &&& 31).toBitVec.toNat = x.toBitVec.toNat &&& 31 := by
      rw [Int32.toBitVec_and, BitVec.toNat_and]
      rfl
    rw [h1]
    have := Nat.and_le_right (n := x.toBitVec.toNat) (m := 31)
    omega
  · show x &&& 31 = Int32.ofNat _
    apply Int32.toBitVec_inj.mp
    rw [Int32.toBitVec_ofNat', BitVec.ofNat_toNat]
    simp
theorem sub7 {L i : Nat} (hL : L ≤ 448) (hi : i ≤ 455) : nI L - (Int8.ofInt 7).toInt32 < nI i ↔ L < i + 7 := by
  have e : nI L - (Int8.ofInt 7).toInt32 = zi ((L : Int) - 7) := by
    rw [← zi_nI]
    exact (Int32.ofInt_sub _ _).symm
  rw [e, Int32.lt_iff_toInt_lt, zi_to (by omega), nI_toInt (by omega)]
  omega
set_option maxHeartbeats 4000000 in
set_option maxRecDepth 100000 in
theorem lw_loop {l : Launch} {X : Nat → List (Option Value) → List Value → List xE → Prop} {xs : Nat → Int32} {L : Nat} (hC : lwC l X xs L) (hL : L ≤ 448) : ∀ (f i : Nat), L < i + 7 * f + 7 → i ≤ 455 → ∀ (S : SS) (G0 Gr : List xE), CInv S G0 → RInv S Gr → InvS S → X 18 [some (.ref 1000), some (.ref 0), some (.ref 59), some (.int (nI i))] [] (G0 ++ Gr.map (xren (fun j => 59 + j))) := by
  intro f
  induction f with
  | zero =>
    intro i h1 h2 S G0 Gr hc hr hI
    obtain ⟨hR, hS, hN⟩ := hC
    refine hR.run (ft := []) (ct := []) (oc := []) klw_head_ok xnof xnok xnoc [20] [] [] 60 ?_
    refine hN 20 _ _ _ (klw_head_ok.at 20 rfl) ?_
    refine hR.run (ft := []) (ct := []) (oc := []) klw_head_ok xnof xnok xnoc [29, 929] [] [] 60 ?_
    refine ⟨fun _ => ?_, fun h => absurd ((sub7 hL h2).mpr (by omega)) h⟩
    refine hR.run (ft := []) (ct := []) (oc := []) klw_tail_ok xnof xnok xnoc [] [] [] 60 ?_
    exact ⟨rfl, rfl⟩
  | succ f ih =>
    intro i h1 h2 S G0 Gr hc hr hI
    have hC9 := hC
    obtain ⟨hR, hS, hN⟩ := hC
    refine hR.run (ft := []) (ct := []) (oc := []) klw_head_ok xnof xnok xnoc [20] [] [] 60 ?_
    refine hN 20 _ _ _ (klw_head_ok.at 20 rfl) ?_
    refine hR.run (ft := []) (ct := []) (oc := []) klw_head_ok xnof xnok xnoc [29, 929] [] [] 60 ?_
    refine ⟨fun _ => ?_, fun h => ?_⟩
    · refine hR.run (ft := []) (ct := []) (oc := []) klw_tail_ok xnof xnok xnoc [] [] [] 60 ?_
      exact ⟨rfl, rfl⟩
    have hi : i + 7 ≤ L := by
      apply Classical.byContradiction
      intro q
      exact h ((sub7 hL h2).mpr (by omega))
    have next : ∀ S' G0' Gr', CInv S' G0' → RInv S' Gr' → InvS S' → X 923 [some (.ref 1000), some (.ref 0), some (.ref 59), some (.int (nI i))] [] (G0' ++ Gr'.map (xren (fun j => 59 + j))) := by
      intro S' G0' Gr' hc' hr' hI'
      have := ih (i + 7) (by omega) (by omega) S' G0' Gr' hc' hr' hI'
      rw [← nI_add i 7] at this
      refine hR.run (ft := []) (ct := []) (oc := []) klw_tail_ok xnof xnok xnoc [] [] [] 60 ?_
      exact this
    refine hS 29 _ _ _ _ i (klw_head_ok.at 29 rfl) rfl (by omega) ?_
    obtain ⟨t, ht, et⟩ := and31 (xs i)
    have stg : ∀ v : Int32, v = nI t → X 33 [some (.ref 1000), some (.ref 0), some (.ref 59), some (.int (nI i))] [.int v] (G0 ++ Gr.map (xren (fun j => 59 + j))) := by
      rintro _ rfl
      by_cases h23 : 23 ≤ t
      · refine hR.tabOut (tgt := 923) (klw_head_ok.at 33 rfl) (Or.inr ?_) (by decide) (next S G0 Gr hc hr hI)
        rw [nI_toInt (by omega)]
        omega
      rcases (show t = 0 ∨ t = 1 ∨ t = 2 ∨ t = 3 ∨ t = 4 ∨ t = 5 ∨ t = 6 ∨ t = 7 ∨ t = 8 ∨ t = 9 ∨ t = 10 ∨ t = 11 ∨ t = 12 ∨ t = 13 ∨ t = 14 ∨ t = 15 ∨ t = 16 ∨ t = 17 ∨ t = 18 ∨ t = 19 ∨ t = 20 ∨ t = 21 ∨ t = 22 by omega) with rfl | rfl | rfl | rfl | rfl | rfl | rfl | rfl | rfl | rfl | rfl | rfl | rfl | rfl | rfl | rfl | rfl | rfl | rfl | rfl | rfl | rfl | rfl
      · exact hR.tabIn (off := 107) (tgt := 140) (klw_head_ok.at 33 rfl) (by decide) (by decide) (by decide) (by decide) (lw_point hC9 hi hc hr hI next)
      · exact hR.tabIn (off := 150) (tgt := 183) (klw_head_ok.at 33 rfl) (by decide) (by decide) (by decide) (by decide) (lw_line hC9 hi hc hr hI next)
      · exact hR.tabIn (off := 193) (tgt := 226) (klw_head_ok.at 33 rfl) (by decide) (by decide) (by decide) (by decide) (lw_conic hC9 hi hc hr hI next)
      · exact hR.tabIn (off := 268) (tgt := 301) (klw_head_ok.at 33 rfl) (by decide) (by decide) (by decide) (by decide) (lw_number hC9 hi hc hr hI next)
      · exact hR.tabIn (off := 301) (tgt := 334) (klw_head_ok.at 33 rfl) (by decide) (by decide) (by decide) (by decide) (lw_join hC9 hi hc hr hI next)
      · exact hR.tabIn (off := 334) (tgt := 367) (klw_head_ok.at 33 rfl) (by decide) (by decide) (by decide) (by decide) (lw_on hC9 hi hc hr hI next)
      · exact hR.tabIn (off := 367) (tgt := 400) (klw_head_ok.at 33 rfl) (by decide) (by decide) (by decide) (by decide) (lw_shape hC9 hi hc hr hI next)
      · exact hR.tabIn (off := 390) (tgt := 423) (klw_head_ok.at 33 rfl) (by decide) (by decide) (by decide) (by decide) (lw_cross hC9 hi hc hr hI next)
      · exact hR.tabIn (off := 454) (tgt := 487) (klw_head_ok.at 33 rfl) (by decide) (by decide) (by decide) (by decide) (lw_give hC9 hi hc hr hI next)
      · exact hR.tabIn (off := 477) (tgt := 510) (klw_head_ok.at 33 rfl) (by decide) (by decide) (by decide) (by decide) (lw_make hC9 hi hc hr hI next)
      · exact hR.tabIn (off := 520) (tgt := 553) (klw_head_ok.at 33 rfl) (by decide) (by decide) (by decide) (by decide) (lw_count hC9 hi hc hr hI next)
      · exact hR.tabIn (off := 543) (tgt := 576) (klw_head_ok.at 33 rfl) (by decide) (by decide) (by decide) (by decide) (lw_entry hC9 hi hc hr hI next)
      · exact hR.tabIn (off := 576) (tgt := 609) (klw_head_ok.at 33 rfl) (by decide) (by decide) (by decide) (by decide) (lw_then hC9 hi hc hr hI next)
      · exact hR.tabIn (off := 609) (tgt := 642) (klw_head_ok.at 33 rfl) (by decide) (by decide) (by decide) (by decide) (lw_back hC9 hi hc hr hI next)
      · exact hR.tabIn (off := 632) (tgt := 665) (klw_head_ok.at 33 rfl) (by decide) (by decide) (by decide) (by decide) (lw_image hC9 hi hc hr hI next)
      · exact hR.tabIn (off := 665) (tgt := 698) (klw_head_ok.at 33 rfl) (by decide) (by decide) (by decide) (by decide) (lw_kind hC9 hi hc hr hI next)
      · exact hR.tabIn (off := 688) (tgt := 721) (klw_head_ok.at 33 rfl) (by decide) (by decide) (by decide) (by decide) (lw_own hC9 hi hc hr hI next)
      · exact hR.tabIn (off := 722) (tgt := 755) (klw_head_ok.at 33 rfl) (by decide) (by decide) (by decide) (by decide) (lw_fixed hC9 hi hc hr hI next)
      · exact hR.tabIn (off := 755) (tgt := 788) (klw_head_ok.at 33 rfl) (by decide) (by decide) (by decide) (by decide) (lw_order hC9 hi hc hr hI next)
      · exact hR.tabIn (off := 788) (tgt := 821) (klw_head_ok.at 33 rfl) (by decide) (by decide) (by decide) (by decide) (lw_seed hC9 hi hc hr hI next)
      · exact hR.tabIn (off := 811) (tgt := 844) (klw_head_ok.at 33 rfl) (by decide) (by decide) (by decide) (by decide) (lw_group hC9 hi hc hr hI next)
      · exact hR.tabIn (off := 834) (tgt := 867) (klw_head_ok.at 33 rfl) (by decide) (by decide) (by decide) (by decide) (lw_element hC9 hi hc hr hI next)
      · exact hR.tabIn (off := 867) (tgt := 900) (klw_head_ok.at 33 rfl) (by decide) (by decide) (by decide) (by decide) (lw_among hC9 hi hc hr hI next)
    refine hR.run (ft := []) (ct := []) (oc := []) klw_head_ok xnof xnok xnoc [33] [] [] 60 ?_
    exact stg _ et
theorem clL_7 : Cond.classLink RL 7 RX10 ∈ xT := xT_at 15 (by decide +kernel) rfl
theorem clL_10 : Cond.classLink RL 10 RX11 ∈ xT := xT_at 617 (by decide +kernel) rfl
theorem lsL_9 : Cond.methodLink RL 9 yX10_init ∈ xT := xT_at 17 (by decide +kernel) rfl
theorem lsL_12 : Cond.methodLink RL 12 yX11_init ∈ xT := xT_at 619 (by decide +kernel) rfl
theorem aoL : Cond.arrayOver (.array .long) ∈ tables_1 := List.mem_of_getElem? (i := 70) (by decide +kernel)
def S00 : SS := ((0, (fun _ => 0), (fun _ _ => 0)), (0, fun _ _ => 0), (0, fun _ => 0), (0, fun _ => 0), (1, fun _ => id9))
theorem C00 {so ce : Nat → Int32} {bo : Nat → Int64} (h : RH (toO (1, fun _ => id9)) so ce) : CInv S00 [.inr (6, [.ref 1, .ref 4, .ref 7, .ref 9, .ref 11, .ref 32, .ref 37, .ref 43, .ref 50, .ref 51, .ref 52, .ref 53, .ref 54, .ref 55, .ref 56, .ref 57, .ref 58]), .inr (5, [.ref 2, .ref 3, .int (nI 60), .int 0]), .inl (60, .inl (fun _ => 0)), .inl (540, .inl (fun _ => 0)), .inr (5, [.ref 5, .ref 6, .int (nI 40), .int 0]), .inl (60, .inl (fun _ => 0)), .inl (540, .inl (fun _ => 0)), .inr (2, [.ref 8, .int (nI 8), .int 0]), .inl (8, .inl (fun _ => 0)), .inr (2, [.ref 10, .int (nI 4), .int 0]), .inl (8, .inl (fun _ => 0)), .inr (3, [.ref 12, .ref 13, .ref 22, .ref 26, .ref 30, .ref 31, .int 0]), .inl (8, .inl (fun _ => 0)), .inl (8, .inr (.inr (.inr (.inr (xnth [14, 15, 16, 17, 18, 19, 20, 21]))))), .inl (3, .inr (.inl (fun _ => 0))), .inl (3, .inr (.inl (fun _ => 0))), .inl (3, .inr (.inl (fun _ => 0))), .inl (3, .inr (.inl (fun _ => 0))), .inl (3, .inr (.inl (fun _ => 0))), .inl (3, .inr (.inl (fun _ => 0))), .inl (3, .inr (.inl (fun _ => 0))), .inl (3, .inr (.inl (fun _ => 0))), .inl (3, .inr (.inr (.inr (.inr (xnth [23, 24, 25]))))), .inl (3, .inr (.inl (fun _ => 0))), .inl (3, .inr (.inl (fun _ => 0))), .inl (3, .inr (.inl (fun _ => 0))), .inl (3, .inr (.inr (.inr (.inr (xnth [27, 28, 29]))))), .inl (3, .inr (.inl (fun _ => 0))), .inl (3, .inr (.inl (fun _ => 0))), .inl (3, .inr (.inl (fun _ => 0))), .inl (3, .inr (.inl (fun _ => 0))), .inl (2, .inr (.inl (fun _ => 0))), .inr (1, [.ref 33, .ref 34, .ref 35, .ref 36]), .inl (9, .inr (.inl (fun _ => 0))), .inl (9, .inr (.inl (fun _ => 0))), .inl (9, .inr (.inl (fun _ => 0))), .inl (9, .inr (.inl (fun _ => 0))), .inr (4, [.ref 38, .ref 39, .ref 40, .ref 41, .ref 42, .int 0]), .inl (3, .inr (.inl (fun _ => 0))), .inl (9, .inr (.inl (fun _ => 0))), .inl (9, .inr (.inl (fun _ => 0))), .inl (9, .inr (.inl (fun _ => 0))), .inl (3, .inr (.inl (fun _ => 0))), .inr (0, [.ref 44, .ref 47, .ref 48, .ref 49]), .inr (5, [.ref 45, .ref 46, .int (nI 48), .int (nI 1)]), .inl (60, .inl (so)), .inl (540, .inl (ce)), .inl (9, .inr (.inl (fun _ => 0))), .inl (9, .inr (.inl (fun _ => 0))), .inl (9, .inr (.inl (bo))), .inl (3, .inr (.inl (fun _ => 0))), .inl (6, .inr (.inl (fun _ => 0))), .inl (9, .inr (.inl (fun _ => 0))), .inl (9, .inr (.inl (fun _ => 0))), .inl (9, .inr (.inl (fun _ => 0))), .inl (3, .inr (.inl (fun _ => 0))), .inl (3, .inr (.inl (fun _ => 0))), .inl (3, .inr (.inl (fun _ => 0))), .inl (3, .inr (.inl (fun _ => 0)))] := by
  have z0 : ∀ (P : Nat → Prop) (k : Nat), k < 0 → P k := fun P k hk => absurd hk (Nat.not_lt_zero k)
  refine ⟨fun _ => 0, fun _ => 0, fun _ => 0, fun _ => 0, fun _ => 0, fun _ => 0, 0, fun _ => 0, fun _ _ => 0, fun _ => 0, fun _ => 0, fun _ => 0, fun _ => 0, fun _ => 0, fun _ => 0, fun _ => 0, fun _ => 0, fun _ => 0, fun _ => 0, fun _ => 0, fun _ => 0, 0, fun _ => 0, fun _ => 0, fun _ => 0, fun _ => 0, fun _ => 0, so, ce, fun _ => 0, fun _ => 0, bo, fun _ => 0, fun _ => 0, fun _ => 0, fun _ => 0, fun _ => 0, fun _ => 0, fun _ => 0, fun _ => 0, fun _ => 0, rfl, ⟨Nat.zero_le 60, fun k hk => absurd hk (Nat.not_lt_zero k), fun k i hk => absurd hk (Nat.not_lt_zero k)⟩, fun k hk => absurd hk (Nat.not_lt_zero k), ⟨Nat.zero_le 60, fun k hk => absurd hk (Nat.not_lt_zero k), fun k i hk => absurd hk (Nat.not_lt_zero k)⟩, Nat.zero_le 40, ⟨Nat.zero_le 8, fun k hk => absurd hk (Nat.not_lt_zero k)⟩, ⟨Nat.zero_le 4, fun k hk => absurd hk (Nat.not_lt_zero k)⟩, h, Nat.le_of_ble_eq_true rfl, Nat.le_refl 1⟩
theorem R00 {gr : Nat → Int32} (h : ∀ i, i < 9 → gr i = zi (id9 i)) : RInv S00 (GR 0 0 0 0 1 0 0 0 (fun _ => 0) (fun _ => 0) (fun _ => 0) (fun _ => 0) (fun _ => 0) gr (fun _ => 0) (fun _ => 0) (fun _ => 0) (fun _ => 0)) := by
  refine ⟨0, 0, 0, fun _ => 0, fun _ => 0, fun _ => 0, fun _ => 0, fun _ => 0, gr, fun _ => 0, fun _ => 0, fun _ => 0, fun _ => 0, rfl, ⟨Nat.zero_le 60, fun k hk => absurd hk (Nat.not_lt_zero k), fun k i hk => absurd hk (Nat.not_lt_zero k)⟩, ⟨Nat.zero_le 40, fun k i hk => absurd hk (Nat.not_lt_zero k)⟩, ⟨Nat.zero_le 8, fun k hk => absurd hk (Nat.not_lt_zero k)⟩, ⟨Nat.zero_le 4, fun k hk => absurd hk (Nat.not_lt_zero k)⟩, ⟨Nat.le_of_ble_eq_true rfl, fun k i hk hi => ?_⟩, Nat.le_refl 1⟩
  have hk0 : k = 0 := by
    have : k < 1 := hk
    omega
  subst hk0
  refine ⟨?_, ?_⟩
  · rw [show 9 * 0 + i = i by omega]
    exact h i hi
  · show -500 ≤ id9 i ∧ id9 i ≤ 500
    rcases (show i = 0 ∨ i = 1 ∨ i = 2 ∨ i = 3 ∨ i = 4 ∨ i = 5 ∨ i = 6 ∨ i = 7 ∨ i = 8 by omega) with rfl | rfl | rfl | rfl | rfl | rfl | rfl | rfl | rfl <;> decide
theorem I00 : InvS S00 := ⟨⟨fun k hk => absurd hk (Nat.not_lt_zero k), fun a b ha => absurd ha (Nat.not_lt_zero a)⟩, fun k hk => absurd hk (Nat.not_lt_zero k), fun _ _ => rfl⟩
set_option maxHeartbeats 4000000 in
set_option maxRecDepth 100000 in
theorem whole_start {p : Program} {e : Env} {s : State} {m : MethodId} {below : List Frame} {meth : Method} {c : Code} (l : Launch) {b L : Nat} {xs : Nat → Int32} (hL : L ≤ 448) (C0 : lw_At p s m meth c b L xs) : W p l e room_1 s m #[Value.ref b] below meth c s.heap [] 0 0 (lw_Z below #[Value.ref b] s) (entryFrame m ([Value.ref b] : List Value).toArray 4) := by
  obtain ⟨hx, hb, hr, hml, hown, hts, hX, hbl, hlocks, hgv⟩ := C0
  have hxT : ∀ w ∈ xT, w.before #[Value.ref b] s = true := fun w hw => hts w (List.mem_filter.mp hw).1
  have hN : xN s := by
    intro w hw hn
    have h1 := hts w (List.mem_append_right _ hw)
    refine va_Nw.of ?_ h1
    cases w <;> first | rfl | (cases hn)
  have hAO : xAO s := hts _ (List.mem_append_right _ aoL)
  have hkn : ∀ ci : Nat, ∃ (cC : ClassId) (iS : Nat → Nat), ∀ q, vwCl[ci]? = some q → u_Kn s q.1 q.2.1 q.2.2 cC iS := by
    intro ci
    cases hq : vwCl[ci]? with
    | none => exact ⟨(Cond.arrayClass_spec (hxT _ awI)).choose, fun _ => 0, fun q h => by cases h⟩
    | some q =>
      have hlt : ci < 8 := (List.getElem?_eq_some_iff.mp hq).1
      rcases (show ci = 0 ∨ ci = 1 ∨ ci = 2 ∨ ci = 3 ∨ ci = 4 ∨ ci = 5 ∨ ci = 6 ∨ ci = 7 by omega) with rfl | rfl | rfl | rfl | rfl | rfl | rfl | rfl <;> cases hq
      · obtain ⟨cC, iS, h⟩ := u_known hxT xiX0 (hxT _ itX0)
        exact ⟨cC, iS, fun q h2 => by cases h2; exact h⟩
      · obtain ⟨cC, iS, h⟩ := u_known hxT xiX1 (hxT _ itX1)
        exact ⟨cC, iS, fun q h2 => by cases h2; exact h⟩
      · obtain ⟨cC, iS, h⟩ := u_known hxT xiX4 (hxT _ itX4)
        exact ⟨cC, iS, fun q h2 => by cases h2; exact h⟩
      · obtain ⟨cC, iS, h⟩ := u_known hxT xiX5 (hxT _ itX5)
        exact ⟨cC, iS, fun q h2 => by cases h2; exact h⟩
      · obtain ⟨cC, iS, h⟩ := u_known hxT xiX6 (hxT _ itX6)
        exact ⟨cC, iS, fun q h2 => by cases h2; exact h⟩
      · obtain ⟨cC, iS, h⟩ := u_known hxT xiX8 (hxT _ itX8)
        exact ⟨cC, iS, fun q h2 => by cases h2; exact h⟩
      · obtain ⟨cC, iS, h⟩ := u_known hxT xiX10 (hxT _ itX10)
        exact ⟨cC, iS, fun q h2 => by cases h2; exact h⟩
      · obtain ⟨cC, iS, h⟩ := u_known hxT xiX11 (hxT _ itX11)
        exact ⟨cC, iS, fun q h2 => by cases h2; exact h⟩
  obtain ⟨dC, hd⟩ := Classical.axiomOfChoice hkn
  obtain ⟨dI, hd2⟩ := Classical.axiomOfChoice hd
  obtain ⟨kI, k1, m1, i1, i2, i3⟩ := Cond.arrayClass_spec (hxT _ awI)
  obtain ⟨kJ, k2, m2, j1, j2, j3⟩ := Cond.arrayClass_spec (hxT _ awJ)
  obtain ⟨_, kQ, k3, -, -, q1, ⟨m3, q2⟩, q3⟩ := hAO.spec
  have hK : va_K (dC, dI) vwCl (xty kI kJ kQ) s := by
    refine ⟨fun ci q hq => hd2 ci q hq, fun k q hq => ?_⟩
    have hlt : k < 3 := (List.getElem?_eq_some_iff.mp hq).1
    rcases (show k = 0 ∨ k = 1 ∨ k = 2 by omega) with rfl | rfl | rfl <;> cases hq
    · exact ⟨fun n z => ⟨fun k h => (by cases h), k1, i2, m1, i3⟩, i1⟩
    · exact ⟨fun n z => ⟨fun k h => (by cases h), k2, j2, m2, j3⟩, j1⟩
    · exact ⟨fun n z => ⟨fun k h => (by cases h), k3, q1, m3, q2⟩, q3⟩
  have hA : ∀ q : Nat, s.heap.size ≤ q → (fun q => s.heap.size ≤ q) q := fun q h => h
  have hS0 : xS p s m #[Value.ref b] c dC dI kI kJ kQ RL cL_law 4 := ⟨hx, hb, hml, hown, hxT, hK, hN⟩
  obtain ⟨Y, hY⟩ : ∃ Y : xYt, Y = (fun cells slots ad => xW p l e room_1 s m #[Value.ref b] below meth c (lw_Z below #[Value.ref b] s) dC dI ad kI kJ kQ (fun q => s.heap.size ≤ q) s.heap 4 cells slots) := ⟨_, rfl⟩
  have h : xB l RL cL_law room_1 4 false Y := ⟨p, e, s, m, _, below, meth, c, _, dC, dI, kI, kJ, kQ, _, s.heap, hY, hS0, hA, hAO, fun q => by cases q⟩
  -- the loop, once both stand
  have go : ∀ (ad : Nat → Nat) (S : SS) (G0 Gr : List xE), ad 1000 = b → CInv S G0 → RInv S Gr → InvS S → Y 70 3360 ad 18 [some (.ref 1000), some (.ref 0), some (.ref 59), some (.int (nI 0))] [] (G0 ++ Gr.map (xren (fun j => 59 + j))) := by
    intro ad S G0 Gr had hc hr9 hI
    have hC : lwC l (Y 70 3360 ad) xs L := by
      subst hY
      refine ⟨⟨p, e, s, m, _, below, meth, c, _, dC, dI, ad, kI, kJ, kQ, _, s.heap, 70, 3360, rfl, hS0, hA, ⟨by decide, by decide⟩, ?_, ?_, ?_⟩, ?_, ?_⟩
      · intro pc lv x G hdg hn hp H locs ls hP hD hS hL2
        have hx1 : x = 1 := by
          have h1 : some (Value.int x) = some (.int 1) := hp
          have h2 := Option.some.inj h1
          exact Value.int.inj h2
        subst hx1
        refine va_forget (fun q hq => hS.2.2 q hq) ?_
        refine W.widen (k := 600000) (n := 7302249) (by decide) (by decide) ?_
        exact lw_ret hx hb hr hlocks hdg
      · intro pc lv x G hdg hn
        cases hn
      · intro pc lv G hdg hn
        cases hn
      · intro pc lv st G i j hdg hij hj kk H locs ls hP hD hS hL2
        subst hij
        have hcl : (nI j).toNatClampNeg = j := by
          have : j < 2147483648 := by omega
          exact Int32.toNatClampNeg_ofNat_of_lt this
        have hin : vp_in (nI j) L := by
          rintro (q | q)
          · rw [Int32.lt_iff_toInt_lt, nI_toInt (by omega)] at q
            have : (0 : Int32).toInt = 0 := rfl
            omega
          · rw [hcl] at q
            omega
        have := kk H locs ls hP hD hS hL2
        show W p l e room_1 s m #[Value.ref b] below meth c H locs 70 3360 (lw_Z below #[Value.ref b] s) (F0 m pc ls (.int (nI j) :: .ref (ad 1000) :: st.map (xv ad)))
        rw [had]
        refine va_sld hx hb hX hbl (fun q => by omega) hS hin hdg ?_
        rw [hcl]
        exact this
      · intro pc lv st G hdg kk H locs ls hP hD hS hL2
        have := kk H locs ls hP hD hS hL2
        show W p l e room_1 s m #[Value.ref b] below meth c H locs 70 3360 (lw_Z below #[Value.ref b] s) (F0 m pc ls (.ref (ad 1000) :: st.map (xv ad)))
        rw [had]
        exact va_slen hx hb hX hbl (fun q => by omega) hS hdg this
    exact lw_loop hC hL 65 0 (by omega) (by omega) S G0 Gr hc hr9 hI
  have main : Y 0 0 (fun _ => b) 0 [some (.ref 1000), none, none, none] [] [] := by
    refine h.new (C := RX10) (T := TX10) (N := 17) (ci := 6) (ty := tyX10) (fs := [.null, .null, .null, .null, .null, .null, .null, .null, .null, .null, .null, .null, .null, .null, .null, .null, .null]) xiX10 tyX10_ok clL_7 itX10 inX10 rfl (fun j hj => by rcases (show j = 0 ∨ j = 1 ∨ j = 2 ∨ j = 3 ∨ j = 4 ∨ j = 5 ∨ j = 6 ∨ j = 7 ∨ j = 8 ∨ j = 9 ∨ j = 10 ∨ j = 11 ∨ j = 12 ∨ j = 13 ∨ j = 14 ∨ j = 15 ∨ j = 16 by omega) with rfl | rfl | rfl | rfl | rfl | rfl | rfl | rfl | rfl | rfl | rfl | rfl | rfl | rfl | rfl | rfl | rfl <;> rfl) rfl (by decide) (by decide) (klw_init_ok.at 0 rfl) (Nat.le_of_ble_eq_true rfl) trivial rfl rfl (fun h1 => ?_)
    show Y 1 17 _ _ _ _ [.inr (6, [.null, .null, .null, .null, .null, .null, .null, .null, .null, .null, .null, .null, .null, .null, .null, .null, .null])]
    refine (h.toR (by decide) (by decide)).run (ft := []) (ct := []) (oc := []) klw_init_ok xnof xnok xnoc [] [] [] 60 ?_
    refine h.callI (cells := 1) (slots := 17) (lv := [some (.ref 1000), none, none, none]) (as := []) (rest := [.ref 0]) (G := []) (i_X10 l) yX10_init_ok (Or.inl lsL_9) ivX10_init rfl ⟨rfl, rfl, by decide, by decide⟩ (klw_init_ok.at 4 rfl) rfl rfl rfl (fun G1 q => by obtain ⟨so, ce, bo, -, rfl⟩ := q; exact ⟨⟨xeW_o rfl, xeW_o rfl, xeW_i, xeW_i, xeW_o rfl, xeW_i, xeW_i, xeW_o rfl, xeW_i, xeW_o rfl, xeW_i, xeW_o rfl, xeW_i, xeW_q rfl, xeW_l, xeW_l, xeW_l, xeW_l, xeW_l, xeW_l, xeW_l, xeW_l, xeW_q rfl, xeW_l, xeW_l, xeW_l, xeW_q rfl, xeW_l, xeW_l, xeW_l, xeW_l, xeW_l, xeW_o rfl, xeW_l, xeW_l, xeW_l, xeW_l, xeW_o rfl, xeW_l, xeW_l, xeW_l, xeW_l, xeW_l, xeW_o rfl, xeW_o rfl, xeW_i, xeW_i, xeW_l, xeW_l, xeW_l, xeW_l, xeW_l, xeW_l, xeW_l, xeW_l, xeW_l, xeW_l, xeW_l, xeW_l, trivial⟩, Nat.le_of_ble_eq_true rfl⟩) (by decide) (Nat.le_of_ble_eq_true rfl) trivial rfl rfl ⟨by decide, by decide⟩ (fun ad1 G1 q hag1 => ?_)
    obtain ⟨so, ce, bo, hRH, rfl⟩ := q
    have em : List.map (xren (fun j => 0 + j)) [.inr (6, [.ref 1, .ref 4, .ref 7, .ref 9, .ref 11, .ref 32, .ref 37, .ref 43, .ref 50, .ref 51, .ref 52, .ref 53, .ref 54, .ref 55, .ref 56, .ref 57, .ref 58]), .inr (5, [.ref 2, .ref 3, .int (nI 60), .int 0]), .inl (60, .inl (fun _ => 0)), .inl (540, .inl (fun _ => 0)), .inr (5, [.ref 5, .ref 6, .int (nI 40), .int 0]), .inl (60, .inl (fun _ => 0)), .inl (540, .inl (fun _ => 0)), .inr (2, [.ref 8, .int (nI 8), .int 0]), .inl (8, .inl (fun _ => 0)), .inr (2, [.ref 10, .int (nI 4), .int 0]), .inl (8, .inl (fun _ => 0)), .inr (3, [.ref 12, .ref 13, .ref 22, .ref 26, .ref 30, .ref 31, .int 0]), .inl (8, .inl (fun _ => 0)), .inl (8, .inr (.inr (.inr (.inr (xnth [14, 15, 16, 17, 18, 19, 20, 21]))))), .inl (3, .inr (.inl (fun _ => 0))), .inl (3, .inr (.inl (fun _ => 0))), .inl (3, .inr (.inl (fun _ => 0))), .inl (3, .inr (.inl (fun _ => 0))), .inl (3, .inr (.inl (fun _ => 0))), .inl (3, .inr (.inl (fun _ => 0))), .inl (3, .inr (.inl (fun _ => 0))), .inl (3, .inr (.inl (fun _ => 0))), .inl (3, .inr (.inr (.inr (.inr (xnth [23, 24, 25]))))), .inl (3, .inr (.inl (fun _ => 0))), .inl (3, .inr (.inl (fun _ => 0))), .inl (3, .inr (.inl (fun _ => 0))), .inl (3, .inr (.inr (.inr (.inr (xnth [27, 28, 29]))))), .inl (3, .inr (.inl (fun _ => 0))), .inl (3, .inr (.inl (fun _ => 0))), .inl (3, .inr (.inl (fun _ => 0))), .inl (3, .inr (.inl (fun _ => 0))), .inl (2, .inr (.inl (fun _ => 0))), .inr (1, [.ref 33, .ref 34, .ref 35, .ref 36]), .inl (9, .inr (.inl (fun _ => 0))), .inl (9, .inr (.inl (fun _ => 0))), .inl (9, .inr (.inl (fun _ => 0))), .inl (9, .inr (.inl (fun _ => 0))), .inr (4, [.ref 38, .ref 39, .ref 40, .ref 41, .ref 42, .int 0]), .inl (3, .inr (.inl (fun _ => 0))), .inl (9, .inr (.inl (fun _ => 0))), .inl (9, .inr (.inl (fun _ => 0))), .inl (9, .inr (.inl (fun _ => 0))), .inl (3, .inr (.inl (fun _ => 0))), .inr (0, [.ref 44, .ref 47, .ref 48, .ref 49]), .inr (5, [.ref 45, .ref 46, .int (nI 48), .int (nI 1)]), .inl (60, .inl (so)), .inl (540, .inl (ce)), .inl (9, .inr (.inl (fun _ => 0))), .inl (9, .inr (.inl (fun _ => 0))), .inl (9, .inr (.inl (bo))), .inl (3, .inr (.inl (fun _ => 0))), .inl (6, .inr (.inl (fun _ => 0))), .inl (9, .inr (.inl (fun _ => 0))), .inl (9, .inr (.inl (fun _ => 0))), .inl (9, .inr (.inl (fun _ => 0))), .inl (3, .inr (.inl (fun _ => 0))), .inl (3, .inr (.inl (fun _ => 0))), .inl (3, .inr (.inl (fun _ => 0))), .inl (3, .inr (.inl (fun _ => 0)))] = [.inr (6, [.ref 1, .ref 4, .ref 7, .ref 9, .ref 11, .ref 32, .ref 37, .ref 43, .ref 50, .ref 51, .ref 52, .ref 53, .ref 54, .ref 55, .ref 56, .ref 57, .ref 58]), .inr (5, [.ref 2, .ref 3, .int (nI 60), .int 0]), .inl (60, .inl (fun _ => 0)), .inl (540, .inl (fun _ => 0)), .inr (5, [.ref 5, .ref 6, .int (nI 40), .int 0]), .inl (60, .inl (fun _ => 0)), .inl (540, .inl (fun _ => 0)), .inr (2, [.ref 8, .int (nI 8), .int 0]), .inl (8, .inl (fun _ => 0)), .inr (2, [.ref 10, .int (nI 4), .int 0]), .inl (8, .inl (fun _ => 0)), .inr (3, [.ref 12, .ref 13, .ref 22, .ref 26, .ref 30, .ref 31, .int 0]), .inl (8, .inl (fun _ => 0)), .inl (8, .inr (.inr (.inr (.inr (xnth [14, 15, 16, 17, 18, 19, 20, 21]))))), .inl (3, .inr (.inl (fun _ => 0))), .inl (3, .inr (.inl (fun _ => 0))), .inl (3, .inr (.inl (fun _ => 0))), .inl (3, .inr (.inl (fun _ => 0))), .inl (3, .inr (.inl (fun _ => 0))), .inl (3, .inr (.inl (fun _ => 0))), .inl (3, .inr (.inl (fun _ => 0))), .inl (3, .inr (.inl (fun _ => 0))), .inl (3, .inr (.inr (.inr (.inr (xnth [23, 24, 25]))))), .inl (3, .inr (.inl (fun _ => 0))), .inl (3, .inr (.inl (fun _ => 0))), .inl (3, .inr (.inl (fun _ => 0))), .inl (3, .inr (.inr (.inr (.inr (xnth [27, 28, 29]))))), .inl (3, .inr (.inl (fun _ => 0))), .inl (3, .inr (.inl (fun _ => 0))), .inl (3, .inr (.inl (fun _ => 0))), .inl (3, .inr (.inl (fun _ => 0))), .inl (2, .inr (.inl (fun _ => 0))), .inr (1, [.ref 33, .ref 34, .ref 35, .ref 36]), .inl (9, .inr (.inl (fun _ => 0))), .inl (9, .inr (.inl (fun _ => 0))), .inl (9, .inr (.inl (fun _ => 0))), .inl (9, .inr (.inl (fun _ => 0))), .inr (4, [.ref 38, .ref 39, .ref 40, .ref 41, .ref 42, .int 0]), .inl (3, .inr (.inl (fun _ => 0))), .inl (9, .inr (.inl (fun _ => 0))), .inl (9, .inr (.inl (fun _ => 0))), .inl (9, .inr (.inl (fun _ => 0))), .inl (3, .inr (.inl (fun _ => 0))), .inr (0, [.ref 44, .ref 47, .ref 48, .ref 49]), .inr (5, [.ref 45, .ref 46, .int (nI 48), .int (nI 1)]), .inl (60, .inl (so)), .inl (540, .inl (ce)), .inl (9, .inr (.inl (fun _ => 0))), .inl (9, .inr (.inl (fun _ => 0))), .inl (9, .inr (.inl (bo))), .inl (3, .inr (.inl (fun _ => 0))), .inl (6, .inr (.inl (fun _ => 0))), .inl (9, .inr (.inl (fun _ => 0))), .inl (9, .inr (.inl (fun _ => 0))), .inl (9, .inr (.inl (fun _ => 0))), .inl (3, .inr (.inl (fun _ => 0))), .inl (3, .inr (.inl (fun _ => 0))), .inl (3, .inr (.inl (fun _ => 0))), .inl (3, .inr (.inl (fun _ => 0)))] := by
      simp only [List.map_cons, List.map_nil, xren_q]
      rfl
    refine (congrArg (fun G9 => Y 59 2085 ad1 7 [some (.ref 1000), none, none, none] [.ref 0] ([] ++ G9)) em).mpr ?_
    show Y 59 2085 _ _ _ _ [.inr (6, [.ref 1, .ref 4, .ref 7, .ref 9, .ref 11, .ref 32, .ref 37, .ref 43, .ref 50, .ref 51, .ref 52, .ref 53, .ref 54, .ref 55, .ref 56, .ref 57, .ref 58]), .inr (5, [.ref 2, .ref 3, .int (nI 60), .int 0]), .inl (60, .inl (fun _ => 0)), .inl (540, .inl (fun _ => 0)), .inr (5, [.ref 5, .ref 6, .int (nI 40), .int 0]), .inl (60, .inl (fun _ => 0)), .inl (540, .inl (fun _ => 0)), .inr (2, [.ref 8, .int (nI 8), .int 0]), .inl (8, .inl (fun _ => 0)), .inr (2, [.ref 10, .int (nI 4), .int 0]), .inl (8, .inl (fun _ => 0)), .inr (3, [.ref 12, .ref 13, .ref 22, .ref 26, .ref 30, .ref 31, .int 0]), .inl (8, .inl (fun _ => 0)), .inl (8, .inr (.inr (.inr (.inr (xnth [14, 15, 16, 17, 18, 19, 20, 21]))))), .inl (3, .inr (.inl (fun _ => 0))), .inl (3, .inr (.inl (fun _ => 0))), .inl (3, .inr (.inl (fun _ => 0))), .inl (3, .inr (.inl (fun _ => 0))), .inl (3, .inr (.inl (fun _ => 0))), .inl (3, .inr (.inl (fun _ => 0))), .inl (3, .inr (.inl (fun _ => 0))), .inl (3, .inr (.inl (fun _ => 0))), .inl (3, .inr (.inr (.inr (.inr (xnth [23, 24, 25]))))), .inl (3, .inr (.inl (fun _ => 0))), .inl (3, .inr (.inl (fun _ => 0))), .inl (3, .inr (.inl (fun _ => 0))), .inl (3, .inr (.inr (.inr (.inr (xnth [27, 28, 29]))))), .inl (3, .inr (.inl (fun _ => 0))), .inl (3, .inr (.inl (fun _ => 0))), .inl (3, .inr (.inl (fun _ => 0))), .inl (3, .inr (.inl (fun _ => 0))), .inl (2, .inr (.inl (fun _ => 0))), .inr (1, [.ref 33, .ref 34, .ref 35, .ref 36]), .inl (9, .inr (.inl (fun _ => 0))), .inl (9, .inr (.inl (fun _ => 0))), .inl (9, .inr (.inl (fun _ => 0))), .inl (9, .inr (.inl (fun _ => 0))), .inr (4, [.ref 38, .ref 39, .ref 40, .ref 41, .ref 42, .int 0]), .inl (3, .inr (.inl (fun _ => 0))), .inl (9, .inr (.inl (fun _ => 0))), .inl (9, .inr (.inl (fun _ => 0))), .inl (9, .inr (.inl (fun _ => 0))), .inl (3, .inr (.inl (fun _ => 0))), .inr (0, [.ref 44, .ref 47, .ref 48, .ref 49]), .inr (5, [.ref 45, .ref 46, .int (nI 48), .int (nI 1)]), .inl (60, .inl (so)), .inl (540, .inl (ce)), .inl (9, .inr (.inl (fun _ => 0))), .inl (9, .inr (.inl (fun _ => 0))), .inl (9, .inr (.inl (bo))), .inl (3, .inr (.inl (fun _ => 0))), .inl (6, .inr (.inl (fun _ => 0))), .inl (9, .inr (.inl (fun _ => 0))), .inl (9, .inr (.inl (fun _ => 0))), .inl (9, .inr (.inl (fun _ => 0))), .inl (3, .inr (.inl (fun _ => 0))), .inl (3, .inr (.inl (fun _ => 0))), .inl (3, .inr (.inl (fun _ => 0))), .inl (3, .inr (.inl (fun _ => 0)))]
    refine (h.toR (by decide) (by decide)).run (ft := []) (ct := []) (oc := []) klw_init_ok xnof xnok xnoc [] [] [] 60 ?_
    refine h.new (cells := 59) (slots := 2085) (C := RX11) (T := TX11) (N := 18) (ci := 7) (ty := tyX11) (fs := [.null, .null, .int 0, .null, .int 0, .null, .int 0, .null, .int 0, .null, .int 0, .null, .null, .null, .null, .long 0, .long 0, .long 0]) (lv := [some (.ref 1000), some (.ref 0), none, none]) (st := []) (G := [.inr (6, [.ref 1, .ref 4, .ref 7, .ref 9, .ref 11, .ref 32, .ref 37, .ref 43, .ref 50, .ref 51, .ref 52, .ref 53, .ref 54, .ref 55, .ref 56, .ref 57, .ref 58]), .inr (5, [.ref 2, .ref 3, .int (nI 60), .int 0]), .inl (60, .inl (fun _ => 0)), .inl (540, .inl (fun _ => 0)), .inr (5, [.ref 5, .ref 6, .int (nI 40), .int 0]), .inl (60, .inl (fun _ => 0)), .inl (540, .inl (fun _ => 0)), .inr (2, [.ref 8, .int (nI 8), .int 0]), .inl (8, .inl (fun _ => 0)), .inr (2, [.ref 10, .int (nI 4), .int 0]), .inl (8, .inl (fun _ => 0)), .inr (3, [.ref 12, .ref 13, .ref 22, .ref 26, .ref 30, .ref 31, .int 0]), .inl (8, .inl (fun _ => 0)), .inl (8, .inr (.inr (.inr (.inr (xnth [14, 15, 16, 17, 18, 19, 20, 21]))))), .inl (3, .inr (.inl (fun _ => 0))), .inl (3, .inr (.inl (fun _ => 0))), .inl (3, .inr (.inl (fun _ => 0))), .inl (3, .inr (.inl (fun _ => 0))), .inl (3, .inr (.inl (fun _ => 0))), .inl (3, .inr (.inl (fun _ => 0))), .inl (3, .inr (.inl (fun _ => 0))), .inl (3, .inr (.inl (fun _ => 0))), .inl (3, .inr (.inr (.inr (.inr (xnth [23, 24, 25]))))), .inl (3, .inr (.inl (fun _ => 0))), .inl (3, .inr (.inl (fun _ => 0))), .inl (3, .inr (.inl (fun _ => 0))), .inl (3, .inr (.inr (.inr (.inr (xnth [27, 28, 29]))))), .inl (3, .inr (.inl (fun _ => 0))), .inl (3, .inr (.inl (fun _ => 0))), .inl (3, .inr (.inl (fun _ => 0))), .inl (3, .inr (.inl (fun _ => 0))), .inl (2, .inr (.inl (fun _ => 0))), .inr (1, [.ref 33, .ref 34, .ref 35, .ref 36]), .inl (9, .inr (.inl (fun _ => 0))), .inl (9, .inr (.inl (fun _ => 0))), .inl (9, .inr (.inl (fun _ => 0))), .inl (9, .inr (.inl (fun _ => 0))), .inr (4, [.ref 38, .ref 39, .ref 40, .ref 41, .ref 42, .int 0]), .inl (3, .inr (.inl (fun _ => 0))), .inl (9, .inr (.inl (fun _ => 0))), .inl (9, .inr (.inl (fun _ => 0))), .inl (9, .inr (.inl (fun _ => 0))), .inl (3, .inr (.inl (fun _ => 0))), .inr (0, [.ref 44, .ref 47, .ref 48, .ref 49]), .inr (5, [.ref 45, .ref 46, .int (nI 48), .int (nI 1)]), .inl (60, .inl (so)), .inl (540, .inl (ce)), .inl (9, .inr (.inl (fun _ => 0))), .inl (9, .inr (.inl (fun _ => 0))), .inl (9, .inr (.inl (bo))), .inl (3, .inr (.inl (fun _ => 0))), .inl (6, .inr (.inl (fun _ => 0))), .inl (9, .inr (.inl (fun _ => 0))), .inl (9, .inr (.inl (fun _ => 0))), .inl (9, .inr (.inl (fun _ => 0))), .inl (3, .inr (.inl (fun _ => 0))), .inl (3, .inr (.inl (fun _ => 0))), .inl (3, .inr (.inl (fun _ => 0))), .inl (3, .inr (.inl (fun _ => 0)))]) xiX11 tyX11_ok clL_10 itX11 inX11 rfl (fun j hj => by rcases (show j = 0 ∨ j = 1 ∨ j = 2 ∨ j = 3 ∨ j = 4 ∨ j = 5 ∨ j = 6 ∨ j = 7 ∨ j = 8 ∨ j = 9 ∨ j = 10 ∨ j = 11 ∨ j = 12 ∨ j = 13 ∨ j = 14 ∨ j = 15 ∨ j = 16 ∨ j = 17 by omega) with rfl | rfl | rfl | rfl | rfl | rfl | rfl | rfl | rfl | rfl | rfl | rfl | rfl | rfl | rfl | rfl | rfl | rfl <;> rfl) rfl (by decide) (by decide) (klw_init_ok.at 8 rfl) (Nat.le_of_ble_eq_true rfl) ⟨xeW_o rfl, xeW_o rfl, xeW_i, xeW_i, xeW_o rfl, xeW_i, xeW_i, xeW_o rfl, xeW_i, xeW_o rfl, xeW_i, xeW_o rfl, xeW_i, xeW_q rfl, xeW_l, xeW_l, xeW_l, xeW_l, xeW_l, xeW_l, xeW_l, xeW_l, xeW_q rfl, xeW_l, xeW_l, xeW_l, xeW_q rfl, xeW_l, xeW_l, xeW_l, xeW_l, xeW_l, xeW_o rfl, xeW_l, xeW_l, xeW_l, xeW_l, xeW_o rfl, xeW_l, xeW_l, xeW_l, xeW_l, xeW_l, xeW_o rfl, xeW_o rfl, xeW_i, xeW_i, xeW_l, xeW_l, xeW_l, xeW_l, xeW_l, xeW_l, xeW_l, xeW_l, xeW_l, xeW_l, xeW_l, xeW_l, trivial⟩ rfl rfl (fun h2 => ?_)
    show Y 60 2103 _ 11 _ _ ([.inr (6, [.ref 1, .ref 4, .ref 7, .ref 9, .ref 11, .ref 32, .ref 37, .ref 43, .ref 50, .ref 51, .ref 52, .ref 53, .ref 54, .ref 55, .ref 56, .ref 57, .ref 58]), .inr (5, [.ref 2, .ref 3, .int (nI 60), .int 0]), .inl (60, .inl (fun _ => 0)), .inl (540, .inl (fun _ => 0)), .inr (5, [.ref 5, .ref 6, .int (nI 40), .int 0]), .inl (60, .inl (fun _ => 0)), .inl (540, .inl (fun _ => 0)), .inr (2, [.ref 8, .int (nI 8), .int 0]), .inl (8, .inl (fun _ => 0)), .inr (2, [.ref 10, .int (nI 4), .int 0]), .inl (8, .inl (fun _ => 0)), .inr (3, [.ref 12, .ref 13, .ref 22, .ref 26, .ref 30, .ref 31, .int 0]), .inl (8, .inl (fun _ => 0)), .inl (8, .inr (.inr (.inr (.inr (xnth [14, 15, 16, 17, 18, 19, 20, 21]))))), .inl (3, .inr (.inl (fun _ => 0))), .inl (3, .inr (.inl (fun _ => 0))), .inl (3, .inr (.inl (fun _ => 0))), .inl (3, .inr (.inl (fun _ => 0))), .inl (3, .inr (.inl (fun _ => 0))), .inl (3, .inr (.inl (fun _ => 0))), .inl (3, .inr (.inl (fun _ => 0))), .inl (3, .inr (.inl (fun _ => 0))), .inl (3, .inr (.inr (.inr (.inr (xnth [23, 24, 25]))))), .inl (3, .inr (.inl (fun _ => 0))), .inl (3, .inr (.inl (fun _ => 0))), .inl (3, .inr (.inl (fun _ => 0))), .inl (3, .inr (.inr (.inr (.inr (xnth [27, 28, 29]))))), .inl (3, .inr (.inl (fun _ => 0))), .inl (3, .inr (.inl (fun _ => 0))), .inl (3, .inr (.inl (fun _ => 0))), .inl (3, .inr (.inl (fun _ => 0))), .inl (2, .inr (.inl (fun _ => 0))), .inr (1, [.ref 33, .ref 34, .ref 35, .ref 36]), .inl (9, .inr (.inl (fun _ => 0))), .inl (9, .inr (.inl (fun _ => 0))), .inl (9, .inr (.inl (fun _ => 0))), .inl (9, .inr (.inl (fun _ => 0))), .inr (4, [.ref 38, .ref 39, .ref 40, .ref 41, .ref 42, .int 0]), .inl (3, .inr (.inl (fun _ => 0))), .inl (9, .inr (.inl (fun _ => 0))), .inl (9, .inr (.inl (fun _ => 0))), .inl (9, .inr (.inl (fun _ => 0))), .inl (3, .inr (.inl (fun _ => 0))), .inr (0, [.ref 44, .ref 47, .ref 48, .ref 49]), .inr (5, [.ref 45, .ref 46, .int (nI 48), .int (nI 1)]), .inl (60, .inl (so)), .inl (540, .inl (ce)), .inl (9, .inr (.inl (fun _ => 0))), .inl (9, .inr (.inl (fun _ => 0))), .inl (9, .inr (.inl (bo))), .inl (3, .inr (.inl (fun _ => 0))), .inl (6, .inr (.inl (fun _ => 0))), .inl (9, .inr (.inl (fun _ => 0))), .inl (9, .inr (.inl (fun _ => 0))), .inl (9, .inr (.inl (fun _ => 0))), .inl (3, .inr (.inl (fun _ => 0))), .inl (3, .inr (.inl (fun _ => 0))), .inl (3, .inr (.inl (fun _ => 0))), .inl (3, .inr (.inl (fun _ => 0)))] ++ [.inr (7, [.null, .null, .int 0, .null, .int 0, .null, .int 0, .null, .int 0, .null, .int 0, .null, .null, .null, .null, .long 0, .long 0, .long 0])])
    refine (h.toR (by decide) (by decide)).run (ft := []) (ct := []) (oc := []) klw_init_ok xnof xnok xnoc [] [] [] 60 ?_
    refine h.callI (cells := 60) (slots := 2103) (lv := [some (.ref 1000), some (.ref 0), none, none]) (as := []) (rest := [.ref 59]) (G := [.inr (6, [.ref 1, .ref 4, .ref 7, .ref 9, .ref 11, .ref 32, .ref 37, .ref 43, .ref 50, .ref 51, .ref 52, .ref 53, .ref 54, .ref 55, .ref 56, .ref 57, .ref 58]), .inr (5, [.ref 2, .ref 3, .int (nI 60), .int 0]), .inl (60, .inl (fun _ => 0)), .inl (540, .inl (fun _ => 0)), .inr (5, [.ref 5, .ref 6, .int (nI 40), .int 0]), .inl (60, .inl (fun _ => 0)), .inl (540, .inl (fun _ => 0)), .inr (2, [.ref 8, .int (nI 8), .int 0]), .inl (8, .inl (fun _ => 0)), .inr (2, [.ref 10, .int (nI 4), .int 0]), .inl (8, .inl (fun _ => 0)), .inr (3, [.ref 12, .ref 13, .ref 22, .ref 26, .ref 30, .ref 31, .int 0]), .inl (8, .inl (fun _ => 0)), .inl (8, .inr (.inr (.inr (.inr (xnth [14, 15, 16, 17, 18, 19, 20, 21]))))), .inl (3, .inr (.inl (fun _ => 0))), .inl (3, .inr (.inl (fun _ => 0))), .inl (3, .inr (.inl (fun _ => 0))), .inl (3, .inr (.inl (fun _ => 0))), .inl (3, .inr (.inl (fun _ => 0))), .inl (3, .inr (.inl (fun _ => 0))), .inl (3, .inr (.inl (fun _ => 0))), .inl (3, .inr (.inl (fun _ => 0))), .inl (3, .inr (.inr (.inr (.inr (xnth [23, 24, 25]))))), .inl (3, .inr (.inl (fun _ => 0))), .inl (3, .inr (.inl (fun _ => 0))), .inl (3, .inr (.inl (fun _ => 0))), .inl (3, .inr (.inr (.inr (.inr (xnth [27, 28, 29]))))), .inl (3, .inr (.inl (fun _ => 0))), .inl (3, .inr (.inl (fun _ => 0))), .inl (3, .inr (.inl (fun _ => 0))), .inl (3, .inr (.inl (fun _ => 0))), .inl (2, .inr (.inl (fun _ => 0))), .inr (1, [.ref 33, .ref 34, .ref 35, .ref 36]), .inl (9, .inr (.inl (fun _ => 0))), .inl (9, .inr (.inl (fun _ => 0))), .inl (9, .inr (.inl (fun _ => 0))), .inl (9, .inr (.inl (fun _ => 0))), .inr (4, [.ref 38, .ref 39, .ref 40, .ref 41, .ref 42, .int 0]), .inl (3, .inr (.inl (fun _ => 0))), .inl (9, .inr (.inl (fun _ => 0))), .inl (9, .inr (.inl (fun _ => 0))), .inl (9, .inr (.inl (fun _ => 0))), .inl (3, .inr (.inl (fun _ => 0))), .inr (0, [.ref 44, .ref 47, .ref 48, .ref 49]), .inr (5, [.ref 45, .ref 46, .int (nI 48), .int (nI 1)]), .inl (60, .inl (so)), .inl (540, .inl (ce)), .inl (9, .inr (.inl (fun _ => 0))), .inl (9, .inr (.inl (fun _ => 0))), .inl (9, .inr (.inl (bo))), .inl (3, .inr (.inl (fun _ => 0))), .inl (6, .inr (.inl (fun _ => 0))), .inl (9, .inr (.inl (fun _ => 0))), .inl (9, .inr (.inl (fun _ => 0))), .inl (9, .inr (.inl (fun _ => 0))), .inl (3, .inr (.inl (fun _ => 0))), .inl (3, .inr (.inl (fun _ => 0))), .inl (3, .inr (.inl (fun _ => 0))), .inl (3, .inr (.inl (fun _ => 0)))]) (i_X11 l) yX11_init_ok (Or.inl lsL_12) ivX11_init rfl ⟨rfl, rfl, by decide, by decide⟩ (klw_init_ok.at 12 rfl) rfl rfl rfl (fun G1 q => by obtain ⟨gr, -, rfl⟩ := q; exact ⟨⟨xeW_o rfl, xeW_i, xeW_i, xeW_i, xeW_i, xeW_i, xeW_i, xeW_l, xeW_l, xeW_l, xeW_l, trivial⟩, Nat.le_of_ble_eq_true rfl⟩) (by decide) (Nat.le_of_ble_eq_true rfl) ⟨xeW_o rfl, xeW_o rfl, xeW_i, xeW_i, xeW_o rfl, xeW_i, xeW_i, xeW_o rfl, xeW_i, xeW_o rfl, xeW_i, xeW_o rfl, xeW_i, xeW_q rfl, xeW_l, xeW_l, xeW_l, xeW_l, xeW_l, xeW_l, xeW_l, xeW_l, xeW_q rfl, xeW_l, xeW_l, xeW_l, xeW_q rfl, xeW_l, xeW_l, xeW_l, xeW_l, xeW_l, xeW_o rfl, xeW_l, xeW_l, xeW_l, xeW_l, xeW_o rfl, xeW_l, xeW_l, xeW_l, xeW_l, xeW_l, xeW_o rfl, xeW_o rfl, xeW_i, xeW_i, xeW_l, xeW_l, xeW_l, xeW_l, xeW_l, xeW_l, xeW_l, xeW_l, xeW_l, xeW_l, xeW_l, xeW_l, trivial⟩ rfl rfl ⟨by decide, by decide⟩ (fun ad2 G2 q hag2 => ?_)
    obtain ⟨gr, hgr, rfl⟩ := q
    show Y 70 3360 ad2 15 _ _ ([.inr (6, [.ref 1, .ref 4, .ref 7, .ref 9, .ref 11, .ref 32, .ref 37, .ref 43, .ref 50, .ref 51, .ref 52, .ref 53, .ref 54, .ref 55, .ref 56, .ref 57, .ref 58]), .inr (5, [.ref 2, .ref 3, .int (nI 60), .int 0]), .inl (60, .inl (fun _ => 0)), .inl (540, .inl (fun _ => 0)), .inr (5, [.ref 5, .ref 6, .int (nI 40), .int 0]), .inl (60, .inl (fun _ => 0)), .inl (540, .inl (fun _ => 0)), .inr (2, [.ref 8, .int (nI 8), .int 0]), .inl (8, .inl (fun _ => 0)), .inr (2, [.ref 10, .int (nI 4), .int 0]), .inl (8, .inl (fun _ => 0)), .inr (3, [.ref 12, .ref 13, .ref 22, .ref 26, .ref 30, .ref 31, .int 0]), .inl (8, .inl (fun _ => 0)), .inl (8, .inr (.inr (.inr (.inr (xnth [14, 15, 16, 17, 18, 19, 20, 21]))))), .inl (3, .inr (.inl (fun _ => 0))), .inl (3, .inr (.inl (fun _ => 0))), .inl (3, .inr (.inl (fun _ => 0))), .inl (3, .inr (.inl (fun _ => 0))), .inl (3, .inr (.inl (fun _ => 0))), .inl (3, .inr (.inl (fun _ => 0))), .inl (3, .inr (.inl (fun _ => 0))), .inl (3, .inr (.inl (fun _ => 0))), .inl (3, .inr (.inr (.inr (.inr (xnth [23, 24, 25]))))), .inl (3, .inr (.inl (fun _ => 0))), .inl (3, .inr (.inl (fun _ => 0))), .inl (3, .inr (.inl (fun _ => 0))), .inl (3, .inr (.inr (.inr (.inr (xnth [27, 28, 29]))))), .inl (3, .inr (.inl (fun _ => 0))), .inl (3, .inr (.inl (fun _ => 0))), .inl (3, .inr (.inl (fun _ => 0))), .inl (3, .inr (.inl (fun _ => 0))), .inl (2, .inr (.inl (fun _ => 0))), .inr (1, [.ref 33, .ref 34, .ref 35, .ref 36]), .inl (9, .inr (.inl (fun _ => 0))), .inl (9, .inr (.inl (fun _ => 0))), .inl (9, .inr (.inl (fun _ => 0))), .inl (9, .inr (.inl (fun _ => 0))), .inr (4, [.ref 38, .ref 39, .ref 40, .ref 41, .ref 42, .int 0]), .inl (3, .inr (.inl (fun _ => 0))), .inl (9, .inr (.inl (fun _ => 0))), .inl (9, .inr (.inl (fun _ => 0))), .inl (9, .inr (.inl (fun _ => 0))), .inl (3, .inr (.inl (fun _ => 0))), .inr (0, [.ref 44, .ref 47, .ref 48, .ref 49]), .inr (5, [.ref 45, .ref 46, .int (nI 48), .int (nI 1)]), .inl (60, .inl (so)), .inl (540, .inl (ce)), .inl (9, .inr (.inl (fun _ => 0))), .inl (9, .inr (.inl (fun _ => 0))), .inl (9, .inr (.inl (bo))), .inl (3, .inr (.inl (fun _ => 0))), .inl (6, .inr (.inl (fun _ => 0))), .inl (9, .inr (.inl (fun _ => 0))), .inl (9, .inr (.inl (fun _ => 0))), .inl (9, .inr (.inl (fun _ => 0))), .inl (3, .inr (.inl (fun _ => 0))), .inl (3, .inr (.inl (fun _ => 0))), .inl (3, .inr (.inl (fun _ => 0))), .inl (3, .inr (.inl (fun _ => 0)))] ++ (GR 0 0 0 0 1 0 0 0 (fun _ => 0) (fun _ => 0) (fun _ => 0) (fun _ => 0) (fun _ => 0) gr (fun _ => 0) (fun _ => 0) (fun _ => 0) (fun _ => 0)).map (xren (fun j => 59 + j)))
    have hfin := go ad2 S00 _ _ (by
      rw [hag2 1000 (Or.inr (by decide))]
      exact hag1 1000 (Or.inr (by decide))) (C00 (bo := bo) hRH) (R00 hgr) I00
    refine (h.toR (by decide) (by decide)).run (ft := []) (ct := []) (oc := []) klw_init_ok xnof xnok xnoc [18] [] [] 60 ?_
    exact hfin
  subst hY
  have hl := lv_entry ([.ref b]) (n := 4) (Nat.le_of_ble_eq_true rfl)
  rw [lg_entry_eq]
  generalize (lg_sl ([.ref b]) ++ List.replicate (4 - (lg_sl ([.ref b])).length) Slot.unset).toArray = ls at hl ⊢
  refine main s.heap [] ls (fun k q hq => by cases hq) ⟨fun i j a b hi => (by cases hi), fun k q hq => (by cases hq)⟩ va_S.rf ⟨hl.1, hl.2.1, rfl, fun i v hv => ?_⟩
  have h4 : i < 4 := (List.getElem?_eq_some_iff.mp hv).1
  rcases (show i = 0 ∨ i = 1 ∨ i = 2 ∨ i = 3 by omega) with rfl | rfl | rfl | rfl
  · have : v = .ref 1000 := by
      have h5 := Option.some.inj hv
      exact (Option.some.inj h5).symm
    rw [this]
    exact lv_at (show lv_has ls 4 [(0, .ref b)] from hl) 0 rfl
  · have h5 := Option.some.inj hv
    cases h5
  · have h5 := Option.some.inj hv
    cases h5
  · have h5 := Option.some.inj hv
    cases h5
